-- ===== RULES TO USE (written by wip/mktyped.py) =====
def wh (X : Nat × (Nat → Int32)) (Cr : am_R) (k : am_K) (Q : Option Value → am_H → Prop) (pc : Nat) (L S : List Value) (h : am_H) : Prop := ∃ r h', Q r h' ∧ am_run X Cr k r h' pc L S h
theorem w_iconst {X : Nat × (Nat → Int32)} {Cr : am_R} {k : am_K} {Q : Option Value → am_H → Prop} : am_r_iconst  k (wh X Cr k Q) := by
  intro pc L S h n v p0 p1 p2
  obtain ⟨r, h', hq, hr⟩ := p2
  exact ⟨r, h', hq, fun P hP => (show am_r_iconst  k P from hP 0) pc L S h n v p0 p1 (hr P hP)⟩
theorem w_bipush {X : Nat × (Nat → Int32)} {Cr : am_R} {k : am_K} {Q : Option Value → am_H → Prop} : am_r_bipush  k (wh X Cr k Q) := by
  intro pc L S h n v p0 p1 p2
  obtain ⟨r, h', hq, hr⟩ := p2
  exact ⟨r, h', hq, fun P hP => (show am_r_bipush  k P from hP 1) pc L S h n v p0 p1 (hr P hP)⟩
theorem w_sipush {X : Nat × (Nat → Int32)} {Cr : am_R} {k : am_K} {Q : Option Value → am_H → Prop} : am_r_sipush  k (wh X Cr k Q) := by
  intro pc L S h n v p0 p1 p2
  obtain ⟨r, h', hq, hr⟩ := p2
  exact ⟨r, h', hq, fun P hP => (show am_r_sipush  k P from hP 2) pc L S h n v p0 p1 (hr P hP)⟩
theorem w_lconst {X : Nat × (Nat → Int32)} {Cr : am_R} {k : am_K} {Q : Option Value → am_H → Prop} : am_r_lconst  k (wh X Cr k Q) := by
  intro pc L S h n v p0 p1 p2
  obtain ⟨r, h', hq, hr⟩ := p2
  exact ⟨r, h', hq, fun P hP => (show am_r_lconst  k P from hP 3) pc L S h n v p0 p1 (hr P hP)⟩
theorem w_iload_n {X : Nat × (Nat → Int32)} {Cr : am_R} {k : am_K} {Q : Option Value → am_H → Prop} : am_r_iload_n  k (wh X Cr k Q) := by
  intro pc L S h q x p0 p1 p2
  obtain ⟨r, h', hq, hr⟩ := p2
  exact ⟨r, h', hq, fun P hP => (show am_r_iload_n  k P from hP 4) pc L S h q x p0 p1 (hr P hP)⟩
theorem w_iload {X : Nat × (Nat → Int32)} {Cr : am_R} {k : am_K} {Q : Option Value → am_H → Prop} : am_r_iload  k (wh X Cr k Q) := by
  intro pc L S h q x p0 p1 p2
  obtain ⟨r, h', hq, hr⟩ := p2
  exact ⟨r, h', hq, fun P hP => (show am_r_iload  k P from hP 5) pc L S h q x p0 p1 (hr P hP)⟩
theorem w_istore_n {X : Nat × (Nat → Int32)} {Cr : am_R} {k : am_K} {Q : Option Value → am_H → Prop} : am_r_istore_n  k (wh X Cr k Q) := by
  intro pc L S h q x p0 p1 p2
  obtain ⟨r, h', hq, hr⟩ := p2
  exact ⟨r, h', hq, fun P hP => (show am_r_istore_n  k P from hP 6) pc L S h q x p0 p1 (hr P hP)⟩
theorem w_istore {X : Nat × (Nat → Int32)} {Cr : am_R} {k : am_K} {Q : Option Value → am_H → Prop} : am_r_istore  k (wh X Cr k Q) := by
  intro pc L S h q x p0 p1 p2
  obtain ⟨r, h', hq, hr⟩ := p2
  exact ⟨r, h', hq, fun P hP => (show am_r_istore  k P from hP 7) pc L S h q x p0 p1 (hr P hP)⟩
theorem w_lload_n {X : Nat × (Nat → Int32)} {Cr : am_R} {k : am_K} {Q : Option Value → am_H → Prop} : am_r_lload_n  k (wh X Cr k Q) := by
  intro pc L S h q x p0 p1 p2
  obtain ⟨r, h', hq, hr⟩ := p2
  exact ⟨r, h', hq, fun P hP => (show am_r_lload_n  k P from hP 8) pc L S h q x p0 p1 (hr P hP)⟩
theorem w_lload {X : Nat × (Nat → Int32)} {Cr : am_R} {k : am_K} {Q : Option Value → am_H → Prop} : am_r_lload  k (wh X Cr k Q) := by
  intro pc L S h q x p0 p1 p2
  obtain ⟨r, h', hq, hr⟩ := p2
  exact ⟨r, h', hq, fun P hP => (show am_r_lload  k P from hP 9) pc L S h q x p0 p1 (hr P hP)⟩
theorem w_lstore_n {X : Nat × (Nat → Int32)} {Cr : am_R} {k : am_K} {Q : Option Value → am_H → Prop} : am_r_lstore_n  k (wh X Cr k Q) := by
  intro pc L S h q x p0 p1 p2
  obtain ⟨r, h', hq, hr⟩ := p2
  exact ⟨r, h', hq, fun P hP => (show am_r_lstore_n  k P from hP 10) pc L S h q x p0 p1 (hr P hP)⟩
theorem w_lstore {X : Nat × (Nat → Int32)} {Cr : am_R} {k : am_K} {Q : Option Value → am_H → Prop} : am_r_lstore  k (wh X Cr k Q) := by
  intro pc L S h q x p0 p1 p2
  obtain ⟨r, h', hq, hr⟩ := p2
  exact ⟨r, h', hq, fun P hP => (show am_r_lstore  k P from hP 11) pc L S h q x p0 p1 (hr P hP)⟩
theorem w_aload_n {X : Nat × (Nat → Int32)} {Cr : am_R} {k : am_K} {Q : Option Value → am_H → Prop} : am_r_aload_n  k (wh X Cr k Q) := by
  intro pc L S h q x p0 p1 p2
  obtain ⟨r, h', hq, hr⟩ := p2
  exact ⟨r, h', hq, fun P hP => (show am_r_aload_n  k P from hP 12) pc L S h q x p0 p1 (hr P hP)⟩
theorem w_aload {X : Nat × (Nat → Int32)} {Cr : am_R} {k : am_K} {Q : Option Value → am_H → Prop} : am_r_aload  k (wh X Cr k Q) := by
  intro pc L S h q x p0 p1 p2
  obtain ⟨r, h', hq, hr⟩ := p2
  exact ⟨r, h', hq, fun P hP => (show am_r_aload  k P from hP 13) pc L S h q x p0 p1 (hr P hP)⟩
theorem w_astore_n {X : Nat × (Nat → Int32)} {Cr : am_R} {k : am_K} {Q : Option Value → am_H → Prop} : am_r_astore_n  k (wh X Cr k Q) := by
  intro pc L S h q x p0 p1 p2
  obtain ⟨r, h', hq, hr⟩ := p2
  exact ⟨r, h', hq, fun P hP => (show am_r_astore_n  k P from hP 14) pc L S h q x p0 p1 (hr P hP)⟩
theorem w_astore {X : Nat × (Nat → Int32)} {Cr : am_R} {k : am_K} {Q : Option Value → am_H → Prop} : am_r_astore  k (wh X Cr k Q) := by
  intro pc L S h q x p0 p1 p2
  obtain ⟨r, h', hq, hr⟩ := p2
  exact ⟨r, h', hq, fun P hP => (show am_r_astore  k P from hP 15) pc L S h q x p0 p1 (hr P hP)⟩
theorem w_iinc {X : Nat × (Nat → Int32)} {Cr : am_R} {k : am_K} {Q : Option Value → am_H → Prop} : am_r_iinc  k (wh X Cr k Q) := by
  intro pc L S h q n x v p0 p1 p2 p3 p4
  obtain ⟨r, h', hq, hr⟩ := p4
  exact ⟨r, h', hq, fun P hP => (show am_r_iinc  k P from hP 16) pc L S h q n x v p0 p1 p2 p3 (hr P hP)⟩
theorem w_iadd {X : Nat × (Nat → Int32)} {Cr : am_R} {k : am_K} {Q : Option Value → am_H → Prop} : am_r_iadd  k (wh X Cr k Q) := by
  intro pc L S h x y p0 p1
  obtain ⟨r, h', hq, hr⟩ := p1
  exact ⟨r, h', hq, fun P hP => (show am_r_iadd  k P from hP 17) pc L S h x y p0 (hr P hP)⟩
theorem w_isub {X : Nat × (Nat → Int32)} {Cr : am_R} {k : am_K} {Q : Option Value → am_H → Prop} : am_r_isub  k (wh X Cr k Q) := by
  intro pc L S h x y p0 p1
  obtain ⟨r, h', hq, hr⟩ := p1
  exact ⟨r, h', hq, fun P hP => (show am_r_isub  k P from hP 18) pc L S h x y p0 (hr P hP)⟩
theorem w_imul {X : Nat × (Nat → Int32)} {Cr : am_R} {k : am_K} {Q : Option Value → am_H → Prop} : am_r_imul  k (wh X Cr k Q) := by
  intro pc L S h x y p0 p1
  obtain ⟨r, h', hq, hr⟩ := p1
  exact ⟨r, h', hq, fun P hP => (show am_r_imul  k P from hP 19) pc L S h x y p0 (hr P hP)⟩
theorem w_iand {X : Nat × (Nat → Int32)} {Cr : am_R} {k : am_K} {Q : Option Value → am_H → Prop} : am_r_iand  k (wh X Cr k Q) := by
  intro pc L S h x y p0 p1
  obtain ⟨r, h', hq, hr⟩ := p1
  exact ⟨r, h', hq, fun P hP => (show am_r_iand  k P from hP 20) pc L S h x y p0 (hr P hP)⟩
theorem w_ior {X : Nat × (Nat → Int32)} {Cr : am_R} {k : am_K} {Q : Option Value → am_H → Prop} : am_r_ior  k (wh X Cr k Q) := by
  intro pc L S h x y p0 p1
  obtain ⟨r, h', hq, hr⟩ := p1
  exact ⟨r, h', hq, fun P hP => (show am_r_ior  k P from hP 21) pc L S h x y p0 (hr P hP)⟩
theorem w_ixor {X : Nat × (Nat → Int32)} {Cr : am_R} {k : am_K} {Q : Option Value → am_H → Prop} : am_r_ixor  k (wh X Cr k Q) := by
  intro pc L S h x y p0 p1
  obtain ⟨r, h', hq, hr⟩ := p1
  exact ⟨r, h', hq, fun P hP => (show am_r_ixor  k P from hP 22) pc L S h x y p0 (hr P hP)⟩
theorem w_ishl {X : Nat × (Nat → Int32)} {Cr : am_R} {k : am_K} {Q : Option Value → am_H → Prop} : am_r_ishl  k (wh X Cr k Q) := by
  intro pc L S h x y p0 p1
  obtain ⟨r, h', hq, hr⟩ := p1
  exact ⟨r, h', hq, fun P hP => (show am_r_ishl  k P from hP 23) pc L S h x y p0 (hr P hP)⟩
theorem w_ishr {X : Nat × (Nat → Int32)} {Cr : am_R} {k : am_K} {Q : Option Value → am_H → Prop} : am_r_ishr  k (wh X Cr k Q) := by
  intro pc L S h x y p0 p1
  obtain ⟨r, h', hq, hr⟩ := p1
  exact ⟨r, h', hq, fun P hP => (show am_r_ishr  k P from hP 24) pc L S h x y p0 (hr P hP)⟩
theorem w_iushr {X : Nat × (Nat → Int32)} {Cr : am_R} {k : am_K} {Q : Option Value → am_H → Prop} : am_r_iushr  k (wh X Cr k Q) := by
  intro pc L S h x y p0 p1
  obtain ⟨r, h', hq, hr⟩ := p1
  exact ⟨r, h', hq, fun P hP => (show am_r_iushr  k P from hP 25) pc L S h x y p0 (hr P hP)⟩
theorem w_idiv {X : Nat × (Nat → Int32)} {Cr : am_R} {k : am_K} {Q : Option Value → am_H → Prop} : am_r_idiv  k (wh X Cr k Q) := by
  intro pc L S h x y p0 p1 p2
  obtain ⟨r, h', hq, hr⟩ := p2
  exact ⟨r, h', hq, fun P hP => (show am_r_idiv  k P from hP 26) pc L S h x y p0 p1 (hr P hP)⟩
theorem w_irem {X : Nat × (Nat → Int32)} {Cr : am_R} {k : am_K} {Q : Option Value → am_H → Prop} : am_r_irem  k (wh X Cr k Q) := by
  intro pc L S h x y p0 p1 p2
  obtain ⟨r, h', hq, hr⟩ := p2
  exact ⟨r, h', hq, fun P hP => (show am_r_irem  k P from hP 27) pc L S h x y p0 p1 (hr P hP)⟩
theorem w_ladd {X : Nat × (Nat → Int32)} {Cr : am_R} {k : am_K} {Q : Option Value → am_H → Prop} : am_r_ladd  k (wh X Cr k Q) := by
  intro pc L S h x y p0 p1
  obtain ⟨r, h', hq, hr⟩ := p1
  exact ⟨r, h', hq, fun P hP => (show am_r_ladd  k P from hP 28) pc L S h x y p0 (hr P hP)⟩
theorem w_lsub {X : Nat × (Nat → Int32)} {Cr : am_R} {k : am_K} {Q : Option Value → am_H → Prop} : am_r_lsub  k (wh X Cr k Q) := by
  intro pc L S h x y p0 p1
  obtain ⟨r, h', hq, hr⟩ := p1
  exact ⟨r, h', hq, fun P hP => (show am_r_lsub  k P from hP 29) pc L S h x y p0 (hr P hP)⟩
theorem w_lmul {X : Nat × (Nat → Int32)} {Cr : am_R} {k : am_K} {Q : Option Value → am_H → Prop} : am_r_lmul  k (wh X Cr k Q) := by
  intro pc L S h x y p0 p1
  obtain ⟨r, h', hq, hr⟩ := p1
  exact ⟨r, h', hq, fun P hP => (show am_r_lmul  k P from hP 30) pc L S h x y p0 (hr P hP)⟩
theorem w_ldiv {X : Nat × (Nat → Int32)} {Cr : am_R} {k : am_K} {Q : Option Value → am_H → Prop} : am_r_ldiv  k (wh X Cr k Q) := by
  intro pc L S h x y p0 p1 p2
  obtain ⟨r, h', hq, hr⟩ := p2
  exact ⟨r, h', hq, fun P hP => (show am_r_ldiv  k P from hP 31) pc L S h x y p0 p1 (hr P hP)⟩
theorem w_lrem {X : Nat × (Nat → Int32)} {Cr : am_R} {k : am_K} {Q : Option Value → am_H → Prop} : am_r_lrem  k (wh X Cr k Q) := by
  intro pc L S h x y p0 p1 p2
  obtain ⟨r, h', hq, hr⟩ := p2
  exact ⟨r, h', hq, fun P hP => (show am_r_lrem  k P from hP 32) pc L S h x y p0 p1 (hr P hP)⟩
theorem w_i2l {X : Nat × (Nat → Int32)} {Cr : am_R} {k : am_K} {Q : Option Value → am_H → Prop} : am_r_i2l  k (wh X Cr k Q) := by
  intro pc L S h x p0 p1
  obtain ⟨r, h', hq, hr⟩ := p1
  exact ⟨r, h', hq, fun P hP => (show am_r_i2l  k P from hP 33) pc L S h x p0 (hr P hP)⟩
theorem w_l2i {X : Nat × (Nat → Int32)} {Cr : am_R} {k : am_K} {Q : Option Value → am_H → Prop} : am_r_l2i  k (wh X Cr k Q) := by
  intro pc L S h x p0 p1
  obtain ⟨r, h', hq, hr⟩ := p1
  exact ⟨r, h', hq, fun P hP => (show am_r_l2i  k P from hP 34) pc L S h x p0 (hr P hP)⟩
theorem w_i2b {X : Nat × (Nat → Int32)} {Cr : am_R} {k : am_K} {Q : Option Value → am_H → Prop} : am_r_i2b  k (wh X Cr k Q) := by
  intro pc L S h x p0 p1
  obtain ⟨r, h', hq, hr⟩ := p1
  exact ⟨r, h', hq, fun P hP => (show am_r_i2b  k P from hP 35) pc L S h x p0 (hr P hP)⟩
theorem w_lcmp {X : Nat × (Nat → Int32)} {Cr : am_R} {k : am_K} {Q : Option Value → am_H → Prop} : am_r_lcmp  k (wh X Cr k Q) := by
  intro pc L S h x y p0 p1
  obtain ⟨r, h', hq, hr⟩ := p1
  exact ⟨r, h', hq, fun P hP => (show am_r_lcmp  k P from hP 36) pc L S h x y p0 (hr P hP)⟩
theorem w_dup {X : Nat × (Nat → Int32)} {Cr : am_R} {k : am_K} {Q : Option Value → am_H → Prop} : am_r_dup  k (wh X Cr k Q) := by
  intro pc L S h v p0 p1 p2
  obtain ⟨r, h', hq, hr⟩ := p2
  exact ⟨r, h', hq, fun P hP => (show am_r_dup  k P from hP 37) pc L S h v p0 p1 (hr P hP)⟩
theorem w_pop {X : Nat × (Nat → Int32)} {Cr : am_R} {k : am_K} {Q : Option Value → am_H → Prop} : am_r_pop  k (wh X Cr k Q) := by
  intro pc L S h v p0 p1 p2
  obtain ⟨r, h', hq, hr⟩ := p2
  exact ⟨r, h', hq, fun P hP => (show am_r_pop  k P from hP 38) pc L S h v p0 p1 (hr P hP)⟩
theorem w_dup2 {X : Nat × (Nat → Int32)} {Cr : am_R} {k : am_K} {Q : Option Value → am_H → Prop} : am_r_dup2  k (wh X Cr k Q) := by
  intro pc L S h v w p0 p1 p2 p3
  obtain ⟨r, h', hq, hr⟩ := p3
  exact ⟨r, h', hq, fun P hP => (show am_r_dup2  k P from hP 39) pc L S h v w p0 p1 p2 (hr P hP)⟩
theorem w_if_eq {X : Nat × (Nat → Int32)} {Cr : am_R} {k : am_K} {Q : Option Value → am_H → Prop} : am_r_if_eq  k (wh X Cr k Q) := by
  intro pc L S h x off tgt p0 p1 p2 p3
  by_cases q : x = 0
  · obtain ⟨r, h', hq, hr⟩ := p2 q
    exact ⟨r, h', hq, fun P hP => (show am_r_if_eq  k P from hP 40) pc L S h x off tgt p0 p1 (fun _ => hr P hP) (fun z => absurd q z)⟩
  · obtain ⟨r, h', hq, hr⟩ := p3 q
    exact ⟨r, h', hq, fun P hP => (show am_r_if_eq  k P from hP 40) pc L S h x off tgt p0 p1 (fun z => absurd z q) (fun _ => hr P hP)⟩
theorem w_icmp_eq {X : Nat × (Nat → Int32)} {Cr : am_R} {k : am_K} {Q : Option Value → am_H → Prop} : am_r_icmp_eq  k (wh X Cr k Q) := by
  intro pc L S h x y off tgt p0 p1 p2 p3
  by_cases q : x = y
  · obtain ⟨r, h', hq, hr⟩ := p2 q
    exact ⟨r, h', hq, fun P hP => (show am_r_icmp_eq  k P from hP 41) pc L S h x y off tgt p0 p1 (fun _ => hr P hP) (fun z => absurd q z)⟩
  · obtain ⟨r, h', hq, hr⟩ := p3 q
    exact ⟨r, h', hq, fun P hP => (show am_r_icmp_eq  k P from hP 41) pc L S h x y off tgt p0 p1 (fun z => absurd z q) (fun _ => hr P hP)⟩
theorem w_if_ne {X : Nat × (Nat → Int32)} {Cr : am_R} {k : am_K} {Q : Option Value → am_H → Prop} : am_r_if_ne  k (wh X Cr k Q) := by
  intro pc L S h x off tgt p0 p1 p2 p3
  by_cases q : x = 0
  · obtain ⟨r, h', hq, hr⟩ := p3 q
    exact ⟨r, h', hq, fun P hP => (show am_r_if_ne  k P from hP 42) pc L S h x off tgt p0 p1 (fun z => absurd q z) (fun _ => hr P hP)⟩
  · obtain ⟨r, h', hq, hr⟩ := p2 q
    exact ⟨r, h', hq, fun P hP => (show am_r_if_ne  k P from hP 42) pc L S h x off tgt p0 p1 (fun _ => hr P hP) (fun z => absurd z q)⟩
theorem w_icmp_ne {X : Nat × (Nat → Int32)} {Cr : am_R} {k : am_K} {Q : Option Value → am_H → Prop} : am_r_icmp_ne  k (wh X Cr k Q) := by
  intro pc L S h x y off tgt p0 p1 p2 p3
  by_cases q : x = y
  · obtain ⟨r, h', hq, hr⟩ := p3 q
    exact ⟨r, h', hq, fun P hP => (show am_r_icmp_ne  k P from hP 43) pc L S h x y off tgt p0 p1 (fun z => absurd q z) (fun _ => hr P hP)⟩
  · obtain ⟨r, h', hq, hr⟩ := p2 q
    exact ⟨r, h', hq, fun P hP => (show am_r_icmp_ne  k P from hP 43) pc L S h x y off tgt p0 p1 (fun _ => hr P hP) (fun z => absurd z q)⟩
theorem w_if_lt {X : Nat × (Nat → Int32)} {Cr : am_R} {k : am_K} {Q : Option Value → am_H → Prop} : am_r_if_lt  k (wh X Cr k Q) := by
  intro pc L S h x off tgt p0 p1 p2 p3
  by_cases q : x < 0
  · obtain ⟨r, h', hq, hr⟩ := p2 q
    exact ⟨r, h', hq, fun P hP => (show am_r_if_lt  k P from hP 44) pc L S h x off tgt p0 p1 (fun _ => hr P hP) (fun z => absurd q z)⟩
  · obtain ⟨r, h', hq, hr⟩ := p3 q
    exact ⟨r, h', hq, fun P hP => (show am_r_if_lt  k P from hP 44) pc L S h x off tgt p0 p1 (fun z => absurd z q) (fun _ => hr P hP)⟩
theorem w_icmp_lt {X : Nat × (Nat → Int32)} {Cr : am_R} {k : am_K} {Q : Option Value → am_H → Prop} : am_r_icmp_lt  k (wh X Cr k Q) := by
  intro pc L S h x y off tgt p0 p1 p2 p3
  by_cases q : x < y
  · obtain ⟨r, h', hq, hr⟩ := p2 q
    exact ⟨r, h', hq, fun P hP => (show am_r_icmp_lt  k P from hP 45) pc L S h x y off tgt p0 p1 (fun _ => hr P hP) (fun z => absurd q z)⟩
  · obtain ⟨r, h', hq, hr⟩ := p3 q
    exact ⟨r, h', hq, fun P hP => (show am_r_icmp_lt  k P from hP 45) pc L S h x y off tgt p0 p1 (fun z => absurd z q) (fun _ => hr P hP)⟩
theorem w_if_ge {X : Nat × (Nat → Int32)} {Cr : am_R} {k : am_K} {Q : Option Value → am_H → Prop} : am_r_if_ge  k (wh X Cr k Q) := by
  intro pc L S h x off tgt p0 p1 p2 p3
  by_cases q : 0 ≤ x
  · obtain ⟨r, h', hq, hr⟩ := p2 q
    exact ⟨r, h', hq, fun P hP => (show am_r_if_ge  k P from hP 46) pc L S h x off tgt p0 p1 (fun _ => hr P hP) (fun z => absurd q z)⟩
  · obtain ⟨r, h', hq, hr⟩ := p3 q
    exact ⟨r, h', hq, fun P hP => (show am_r_if_ge  k P from hP 46) pc L S h x off tgt p0 p1 (fun z => absurd z q) (fun _ => hr P hP)⟩
theorem w_icmp_ge {X : Nat × (Nat → Int32)} {Cr : am_R} {k : am_K} {Q : Option Value → am_H → Prop} : am_r_icmp_ge  k (wh X Cr k Q) := by
  intro pc L S h x y off tgt p0 p1 p2 p3
  by_cases q : y ≤ x
  · obtain ⟨r, h', hq, hr⟩ := p2 q
    exact ⟨r, h', hq, fun P hP => (show am_r_icmp_ge  k P from hP 47) pc L S h x y off tgt p0 p1 (fun _ => hr P hP) (fun z => absurd q z)⟩
  · obtain ⟨r, h', hq, hr⟩ := p3 q
    exact ⟨r, h', hq, fun P hP => (show am_r_icmp_ge  k P from hP 47) pc L S h x y off tgt p0 p1 (fun z => absurd z q) (fun _ => hr P hP)⟩
theorem w_if_gt {X : Nat × (Nat → Int32)} {Cr : am_R} {k : am_K} {Q : Option Value → am_H → Prop} : am_r_if_gt  k (wh X Cr k Q) := by
  intro pc L S h x off tgt p0 p1 p2 p3
  by_cases q : 0 < x
  · obtain ⟨r, h', hq, hr⟩ := p2 q
    exact ⟨r, h', hq, fun P hP => (show am_r_if_gt  k P from hP 48) pc L S h x off tgt p0 p1 (fun _ => hr P hP) (fun z => absurd q z)⟩
  · obtain ⟨r, h', hq, hr⟩ := p3 q
    exact ⟨r, h', hq, fun P hP => (show am_r_if_gt  k P from hP 48) pc L S h x off tgt p0 p1 (fun z => absurd z q) (fun _ => hr P hP)⟩
theorem w_icmp_gt {X : Nat × (Nat → Int32)} {Cr : am_R} {k : am_K} {Q : Option Value → am_H → Prop} : am_r_icmp_gt  k (wh X Cr k Q) := by
  intro pc L S h x y off tgt p0 p1 p2 p3
  by_cases q : y < x
  · obtain ⟨r, h', hq, hr⟩ := p2 q
    exact ⟨r, h', hq, fun P hP => (show am_r_icmp_gt  k P from hP 49) pc L S h x y off tgt p0 p1 (fun _ => hr P hP) (fun z => absurd q z)⟩
  · obtain ⟨r, h', hq, hr⟩ := p3 q
    exact ⟨r, h', hq, fun P hP => (show am_r_icmp_gt  k P from hP 49) pc L S h x y off tgt p0 p1 (fun z => absurd z q) (fun _ => hr P hP)⟩
theorem w_if_le {X : Nat × (Nat → Int32)} {Cr : am_R} {k : am_K} {Q : Option Value → am_H → Prop} : am_r_if_le  k (wh X Cr k Q) := by
  intro pc L S h x off tgt p0 p1 p2 p3
  by_cases q : x ≤ 0
  · obtain ⟨r, h', hq, hr⟩ := p2 q
    exact ⟨r, h', hq, fun P hP => (show am_r_if_le  k P from hP 50) pc L S h x off tgt p0 p1 (fun _ => hr P hP) (fun z => absurd q z)⟩
  · obtain ⟨r, h', hq, hr⟩ := p3 q
    exact ⟨r, h', hq, fun P hP => (show am_r_if_le  k P from hP 50) pc L S h x off tgt p0 p1 (fun z => absurd z q) (fun _ => hr P hP)⟩
theorem w_icmp_le {X : Nat × (Nat → Int32)} {Cr : am_R} {k : am_K} {Q : Option Value → am_H → Prop} : am_r_icmp_le  k (wh X Cr k Q) := by
  intro pc L S h x y off tgt p0 p1 p2 p3
  by_cases q : x ≤ y
  · obtain ⟨r, h', hq, hr⟩ := p2 q
    exact ⟨r, h', hq, fun P hP => (show am_r_icmp_le  k P from hP 51) pc L S h x y off tgt p0 p1 (fun _ => hr P hP) (fun z => absurd q z)⟩
  · obtain ⟨r, h', hq, hr⟩ := p3 q
    exact ⟨r, h', hq, fun P hP => (show am_r_icmp_le  k P from hP 51) pc L S h x y off tgt p0 p1 (fun z => absurd z q) (fun _ => hr P hP)⟩
theorem w_goto {X : Nat × (Nat → Int32)} {Cr : am_R} {k : am_K} {Q : Option Value → am_H → Prop} : am_r_goto  k (wh X Cr k Q) := by
  intro pc L S h off tgt p0 p1 p2
  obtain ⟨r, h', hq, hr⟩ := p2
  exact ⟨r, h', hq, fun P hP => (show am_r_goto  k P from hP 52) pc L S h off tgt p0 p1 (hr P hP)⟩
theorem w_tableIn {X : Nat × (Nat → Int32)} {Cr : am_R} {k : am_K} {Q : Option Value → am_H → Prop} : am_r_tableIn  k (wh X Cr k Q) := by
  intro pc L S h x dflt lo hi offs len off tgt p0 p1 p2 p3 p4 p5
  obtain ⟨r, h', hq, hr⟩ := p5
  exact ⟨r, h', hq, fun P hP => (show am_r_tableIn  k P from hP 53) pc L S h x dflt lo hi offs len off tgt p0 p1 p2 p3 p4 (hr P hP)⟩
theorem w_tableOut {X : Nat × (Nat → Int32)} {Cr : am_R} {k : am_K} {Q : Option Value → am_H → Prop} : am_r_tableOut  k (wh X Cr k Q) := by
  intro pc L S h x dflt lo hi offs len tgt p0 p1 p2 p3
  obtain ⟨r, h', hq, hr⟩ := p3
  exact ⟨r, h', hq, fun P hP => (show am_r_tableOut  k P from hP 54) pc L S h x dflt lo hi offs len tgt p0 p1 p2 (hr P hP)⟩
theorem w_ldc {X : Nat × (Nat → Int32)} {Cr : am_R} {k : am_K} {Q : Option Value → am_H → Prop} : am_r_ldc  k (wh X Cr k Q) := by
  intro pc L S h idx v p0 p1 p2
  obtain ⟨r, h', hq, hr⟩ := p2
  exact ⟨r, h', hq, fun P hP => (show am_r_ldc  k P from hP 55) pc L S h idx v p0 p1 (hr P hP)⟩
theorem w_ldc_w {X : Nat × (Nat → Int32)} {Cr : am_R} {k : am_K} {Q : Option Value → am_H → Prop} : am_r_ldc_w  k (wh X Cr k Q) := by
  intro pc L S h idx v p0 p1 p2
  obtain ⟨r, h', hq, hr⟩ := p2
  exact ⟨r, h', hq, fun P hP => (show am_r_ldc_w  k P from hP 56) pc L S h idx v p0 p1 (hr P hP)⟩
theorem w_ldc2 {X : Nat × (Nat → Int32)} {Cr : am_R} {k : am_K} {Q : Option Value → am_H → Prop} : am_r_ldc2  k (wh X Cr k Q) := by
  intro pc L S h idx v p0 p1 p2
  obtain ⟨r, h', hq, hr⟩ := p2
  exact ⟨r, h', hq, fun P hP => (show am_r_ldc2  k P from hP 57) pc L S h idx v p0 p1 (hr P hP)⟩
theorem w_getLet {X : Nat × (Nat → Int32)} {Cr : am_R} {k : am_K} {Q : Option Value → am_H → Prop} : am_r_getLet  k (wh X Cr k Q) := by
  intro pc L S h idx host p0 p1 p2
  obtain ⟨r, h', hq, hr⟩ := p2
  exact ⟨r, h', hq, fun P hP => (show am_r_getLet  k P from hP 58) pc L S h idx host p0 p1 (hr P hP)⟩
theorem w_getf {X : Nat × (Nat → Int32)} {Cr : am_R} {k : am_K} {Q : Option Value → am_H → Prop} : am_r_getf  k (wh X Cr k Q) := by
  intro pc L S h idx ci j a fs v p0 p1 p2 p3 p4
  obtain ⟨r, h', hq, hr⟩ := p4
  exact ⟨r, h', hq, fun P hP => (show am_r_getf  k P from hP 59) pc L S h idx ci j a fs v p0 p1 p2 p3 (hr P hP)⟩
theorem w_putI {X : Nat × (Nat → Int32)} {Cr : am_R} {k : am_K} {Q : Option Value → am_H → Prop} : am_r_putI  k (wh X Cr k Q) := by
  intro pc L S h idx ci j a fs x p0 p1 p2 p3 p4
  obtain ⟨r, h', hq, hr⟩ := p4
  exact ⟨r, h', hq, fun P hP => (show am_r_putI  k P from hP 60) pc L S h idx ci j a fs x p0 p1 p2 p3 (hr P hP)⟩
theorem w_putJ {X : Nat × (Nat → Int32)} {Cr : am_R} {k : am_K} {Q : Option Value → am_H → Prop} : am_r_putJ  k (wh X Cr k Q) := by
  intro pc L S h idx ci j a fs x p0 p1 p2 p3 p4
  obtain ⟨r, h', hq, hr⟩ := p4
  exact ⟨r, h', hq, fun P hP => (show am_r_putJ  k P from hP 61) pc L S h idx ci j a fs x p0 p1 p2 p3 (hr P hP)⟩
theorem w_putF {X : Nat × (Nat → Int32)} {Cr : am_R} {k : am_K} {Q : Option Value → am_H → Prop} : am_r_putF  k (wh X Cr k Q) := by
  intro pc L S h idx ci j a ft fs v p0 p1 p2 p3 p4 p5 p6 p7
  obtain ⟨r, h', hq, hr⟩ := p7
  exact ⟨r, h', hq, fun P hP => (show am_r_putF  k P from hP 62) pc L S h idx ci j a ft fs v p0 p1 p2 p3 p4 p5 p6 (hr P hP)⟩
theorem w_iald {X : Nat × (Nat → Int32)} {Cr : am_R} {k : am_K} {Q : Option Value → am_H → Prop} : am_r_iald  k (wh X Cr k Q) := by
  intro pc L S h a n f i p0 p1 p2 p3
  obtain ⟨r, h', hq, hr⟩ := p3
  exact ⟨r, h', hq, fun P hP => (show am_r_iald  k P from hP 63) pc L S h a n f i p0 p1 p2 (hr P hP)⟩
theorem w_sald {X : Nat × (Nat → Int32)} {Cr : am_R} {k : am_K} {Q : Option Value → am_H → Prop} : am_r_sald X k (wh X Cr k Q) := by
  intro pc L S h i p0 p1 p2
  obtain ⟨r, h', hq, hr⟩ := p2
  exact ⟨r, h', hq, fun P hP => (show am_r_sald X k P from hP 64) pc L S h i p0 p1 (hr P hP)⟩
theorem w_slen {X : Nat × (Nat → Int32)} {Cr : am_R} {k : am_K} {Q : Option Value → am_H → Prop} : am_r_slen X k (wh X Cr k Q) := by
  intro pc L S h p0 p1
  obtain ⟨r, h', hq, hr⟩ := p1
  exact ⟨r, h', hq, fun P hP => (show am_r_slen X k P from hP 65) pc L S h p0 (hr P hP)⟩
theorem w_letld {X : Nat × (Nat → Int32)} {Cr : am_R} {k : am_K} {Q : Option Value → am_H → Prop} : am_r_letld  k (wh X Cr k Q) := by
  intro pc L S h i p0 p1 p2
  obtain ⟨r, h', hq, hr⟩ := p2
  exact ⟨r, h', hq, fun P hP => (show am_r_letld  k P from hP 66) pc L S h i p0 p1 (hr P hP)⟩
theorem w_bald {X : Nat × (Nat → Int32)} {Cr : am_R} {k : am_K} {Q : Option Value → am_H → Prop} : am_r_bald  k (wh X Cr k Q) := by
  intro pc L S h a n f i p0 p1 p2 p3
  obtain ⟨r, h', hq, hr⟩ := p3
  exact ⟨r, h', hq, fun P hP => (show am_r_bald  k P from hP 67) pc L S h a n f i p0 p1 p2 (hr P hP)⟩
theorem w_lald {X : Nat × (Nat → Int32)} {Cr : am_R} {k : am_K} {Q : Option Value → am_H → Prop} : am_r_lald  k (wh X Cr k Q) := by
  intro pc L S h a n f i p0 p1 p2 p3
  obtain ⟨r, h', hq, hr⟩ := p3
  exact ⟨r, h', hq, fun P hP => (show am_r_lald  k P from hP 68) pc L S h a n f i p0 p1 p2 (hr P hP)⟩
theorem w_aald {X : Nat × (Nat → Int32)} {Cr : am_R} {k : am_K} {Q : Option Value → am_H → Prop} : am_r_aald  k (wh X Cr k Q) := by
  intro pc L S h a t n q f i p0 p1 p2 p3 p4 p5
  obtain ⟨r, h', hq, hr⟩ := p5
  exact ⟨r, h', hq, fun P hP => (show am_r_aald  k P from hP 69) pc L S h a t n q f i p0 p1 p2 p3 p4 (hr P hP)⟩
theorem w_iast {X : Nat × (Nat → Int32)} {Cr : am_R} {k : am_K} {Q : Option Value → am_H → Prop} : am_r_iast  k (wh X Cr k Q) := by
  intro pc L S h a n f i x p0 p1 p2 p3
  obtain ⟨r, h', hq, hr⟩ := p3
  exact ⟨r, h', hq, fun P hP => (show am_r_iast  k P from hP 70) pc L S h a n f i x p0 p1 p2 (hr P hP)⟩
theorem w_bast {X : Nat × (Nat → Int32)} {Cr : am_R} {k : am_K} {Q : Option Value → am_H → Prop} : am_r_bast  k (wh X Cr k Q) := by
  intro pc L S h a n f i x p0 p1 p2 p3
  obtain ⟨r, h', hq, hr⟩ := p3
  exact ⟨r, h', hq, fun P hP => (show am_r_bast  k P from hP 71) pc L S h a n f i x p0 p1 p2 (hr P hP)⟩
theorem w_last {X : Nat × (Nat → Int32)} {Cr : am_R} {k : am_K} {Q : Option Value → am_H → Prop} : am_r_last  k (wh X Cr k Q) := by
  intro pc L S h a n f i x p0 p1 p2 p3
  obtain ⟨r, h', hq, hr⟩ := p3
  exact ⟨r, h', hq, fun P hP => (show am_r_last  k P from hP 72) pc L S h a n f i x p0 p1 p2 (hr P hP)⟩
theorem w_aast {X : Nat × (Nat → Int32)} {Cr : am_R} {k : am_K} {Q : Option Value → am_H → Prop} : am_r_aast  k (wh X Cr k Q) := by
  intro pc L S h a t n b ci vs f i p0 p1 p2 p3 p4 p5 p6
  obtain ⟨r, h', hq, hr⟩ := p6
  exact ⟨r, h', hq, fun P hP => (show am_r_aast  k P from hP 73) pc L S h a t n b ci vs f i p0 p1 p2 p3 p4 p5 (hr P hP)⟩
theorem w_alen {X : Nat × (Nat → Int32)} {Cr : am_R} {k : am_K} {Q : Option Value → am_H → Prop} : am_r_alen  k (wh X Cr k Q) := by
  intro pc L S h a t x p0 p1 p2 p3
  obtain ⟨r, h', hq, hr⟩ := p3
  exact ⟨r, h', hq, fun P hP => (show am_r_alen  k P from hP 74) pc L S h a t x p0 p1 p2 (hr P hP)⟩
theorem w_new {X : Nat × (Nat → Int32)} {Cr : am_R} {k : am_K} {Q : Option Value → am_H → Prop} : am_r_new  k (wh X Cr k Q) := by
  intro pc L S h idx ci fs p0 p1 p2
  obtain ⟨r, h', hq, hr⟩ := p2
  exact ⟨r, h', hq, fun P hP => (show am_r_new  k P from hP 75) pc L S h idx ci fs p0 p1 (hr P hP)⟩
theorem w_newa {X : Nat × (Nat → Int32)} {Cr : am_R} {k : am_K} {Q : Option Value → am_H → Prop} : am_r_newa  k (wh X Cr k Q) := by
  intro pc L S h at_ t N x0 n p0 p1 p2 p3 p4 p5 p6 p7 p8
  obtain ⟨r, h', hq, hr⟩ := p8
  exact ⟨r, h', hq, fun P hP => (show am_r_newa  k P from hP 76) pc L S h at_ t N x0 n p0 p1 p2 p3 p4 p5 p6 p7 (hr P hP)⟩
theorem w_anew {X : Nat × (Nat → Int32)} {Cr : am_R} {k : am_K} {Q : Option Value → am_H → Prop} : am_r_anew  k (wh X Cr k Q) := by
  intro pc L S h idx t N C n p0 p1 p2 p3 p4 p5 p6 p7
  obtain ⟨r, h', hq, hr⟩ := p7
  exact ⟨r, h', hq, fun P hP => (show am_r_anew  k P from hP 77) pc L S h idx t N C n p0 p1 p2 p3 p4 p5 p6 (hr P hP)⟩
theorem w_objI {X : Nat × (Nat → Int32)} {Cr : am_R} {k : am_K} {Q : Option Value → am_H → Prop} : am_r_objI  k (wh X Cr k Q) := by
  intro pc L S h idx a p0 p1 p2 p3
  obtain ⟨r, h', hq, hr⟩ := p3
  exact ⟨r, h', hq, fun P hP => (show am_r_objI  k P from hP 78) pc L S h idx a p0 p1 p2 (hr P hP)⟩
theorem w_callV {X : Nat × (Nat → Int32)} {Cr : am_R} {k : am_K} {Q : Option Value → am_H → Prop} : am_r_callV Cr k (wh X Cr k Q) := by
  intro pc L S h idx y n ci a As fs r1 h1 S0 p0 p1 p2 p3 p4 p5 p6 p7
  obtain ⟨r, h', hq, hr⟩ := p7
  exact ⟨r, h', hq, fun P hP => (show am_r_callV Cr k P from hP 79) pc L S h idx y n ci a As fs r1 h1 S0 p0 p1 p2 p3 p4 p5 p6 (hr P hP)⟩
theorem w_callS {X : Nat × (Nat → Int32)} {Cr : am_R} {k : am_K} {Q : Option Value → am_H → Prop} : am_r_callS Cr k (wh X Cr k Q) := by
  intro pc L S h idx y n As r1 h1 S0 p0 p1 p2 p3 p4 p5 p6
  obtain ⟨r, h', hq, hr⟩ := p6
  exact ⟨r, h', hq, fun P hP => (show am_r_callS Cr k P from hP 80) pc L S h idx y n As r1 h1 S0 p0 p1 p2 p3 p4 p5 (hr P hP)⟩
theorem w_callSN {X : Nat × (Nat → Int32)} {Cr : am_R} {k : am_K} {Q : Option Value → am_H → Prop} : am_r_callSN Cr k (wh X Cr k Q) := by
  intro pc L S h idx y n As r1 h1 S0 p0 p1 p2 p3 p4 p5 p6
  obtain ⟨r, h', hq, hr⟩ := p6
  exact ⟨r, h', hq, fun P hP => (show am_r_callSN Cr k P from hP 81) pc L S h idx y n As r1 h1 S0 p0 p1 p2 p3 p4 p5 (hr P hP)⟩
theorem w_callI {X : Nat × (Nat → Int32)} {Cr : am_R} {k : am_K} {Q : Option Value → am_H → Prop} : am_r_callI Cr k (wh X Cr k Q) := by
  intro pc L S h idx y n a As r1 h1 S0 p0 p1 p2 p3 p4 p5 p6
  obtain ⟨r, h', hq, hr⟩ := p6
  exact ⟨r, h', hq, fun P hP => (show am_r_callI Cr k P from hP 82) pc L S h idx y n a As r1 h1 S0 p0 p1 p2 p3 p4 p5 (hr P hP)⟩
theorem w_callIN {X : Nat × (Nat → Int32)} {Cr : am_R} {k : am_K} {Q : Option Value → am_H → Prop} : am_r_callIN Cr k (wh X Cr k Q) := by
  intro pc L S h idx y n a As r1 h1 S0 p0 p1 p2 p3 p4 p5 p6
  obtain ⟨r, h', hq, hr⟩ := p6
  exact ⟨r, h', hq, fun P hP => (show am_r_callIN Cr k P from hP 83) pc L S h idx y n a As r1 h1 S0 p0 p1 p2 p3 p4 p5 (hr P hP)⟩
theorem w_acopy {X : Nat × (Nat → Int32)} {Cr : am_R} {k : am_K} {Q : Option Value → am_H → Prop} : am_r_acopy  k (wh X Cr k Q) := by
  intro pc L S h idx a0 a1 n0 n1 f g sp dp n p0 p1 p2 p3 p4 p5 p6 p7 p8 p9 p10
  obtain ⟨r, h', hq, hr⟩ := p10
  exact ⟨r, h', hq, fun P hP => (show am_r_acopy  k P from hP 84) pc L S h idx a0 a1 n0 n1 f g sp dp n p0 p1 p2 p3 p4 p5 p6 p7 p8 p9 (hr P hP)⟩
theorem w_mna {X : Nat × (Nat → Int32)} {Cr : am_R} {k : am_K} {Q : Option Value → am_H → Prop} : am_r_mna  k (wh X Cr k Q) := by
  intro pc L S h idx N M n q p0 p1 p2 p3 p4 p5 p6 p7 p8 p9
  obtain ⟨r, h', hq, hr⟩ := p9
  exact ⟨r, h', hq, fun P hP => (show am_r_mna  k P from hP 86) pc L S h idx N M n q p0 p1 p2 p3 p4 p5 p6 p7 p8 (hr P hP)⟩
theorem w_ret {X : Nat × (Nat → Int32)} {Cr : am_R} {k : am_K} {Q : Option Value → am_H → Prop} {pc : Nat} {L : List Value} {h : am_H} (r : Option Value) (hf : am_fin k.2.1 pc r) (ho : am_okr k.2.2.2 r) (hq : Q r h) : wh X Cr k Q pc L r.toList h :=
  ⟨r, h, hq, fun P hP => (show am_r_ret r h k P from hP 85) pc L hf ho⟩
abbrev am_M : Type := (Nat → Nat → Int32) × (Nat → Nat → Int64)
abbrev am_Sh : Type := Nat × Nat × List Nat
def am_shT : List am_Sh := [(14, 0, [3, 4, 5, 10, 15, 20, 25, 27, 28, 62, 63, 70, 71, 72, 0, 0]), (3, 0, [73, 75, 77, 79, 81, 83]), (4, 0, [85, 87, 89, 91]), (8, 0, [6, 7, 8, 9, 0, 0, 0, 0, 0]), (0, 7, []), (0, 7, []), (0, 7, []), (0, 7, []), (8, 0, [11, 12, 13, 14, 0, 0, 0, 0, 0]), (0, 7, []), (0, 7, []), (0, 7, []), (0, 7, []), (8, 0, [16, 17, 18, 19, 0, 0, 0, 0, 0]), (0, 7, []), (0, 7, []), (0, 7, []), (0, 7, []), (8, 0, [21, 22, 23, 24, 0, 0, 0, 0, 0]), (0, 7, []), (0, 7, []), (0, 7, []), (0, 7, []), (9, 0, [26, 0]), (0, 40, []), (5, 0, [93, 95, 97]), (10, 0, [29, 30, 31, 0]), (0, 5, []), (0, 5, []), (6, 0, [32, 37, 42, 47, 52, 57]), (8, 0, [33, 34, 35, 36, 0, 0, 0, 0, 0]), (0, 7, []), (0, 7, []), (0, 7, []), (0, 7, []), (8, 0, [38, 39, 40, 41, 0, 0, 0, 0, 0]), (0, 7, []), (0, 7, []), (0, 7, []), (0, 7, []), (8, 0, [43, 44, 45, 46, 0, 0, 0, 0, 0]), (0, 7, []), (0, 7, []), (0, 7, []), (0, 7, []), (8, 0, [48, 49, 50, 51, 0, 0, 0, 0, 0]), (0, 7, []), (0, 7, []), (0, 7, []), (0, 7, []), (8, 0, [53, 54, 55, 56, 0, 0, 0, 0, 0]), (0, 7, []), (0, 7, []), (0, 7, []), (0, 7, []), (8, 0, [58, 59, 60, 61, 0, 0, 0, 0, 0]), (0, 7, []), (0, 7, []), (0, 7, []), (0, 7, []), (0, 61, []), (7, 0, [64, 65, 66, 67, 68, 69]), (0, 21, []), (0, 21, []), (0, 21, []), (0, 21, []), (0, 21, []), (0, 21, []), (2, 8, []), (12, 0, [1, 1]), (0, 6, []), (11, 0, [74, 0]), (0, 40, []), (11, 0, [76, 0]), (0, 40, []), (11, 0, [78, 0]), (0, 40, []), (11, 0, [80, 0]), (0, 40, []), (11, 0, [82, 0]), (0, 40, []), (11, 0, [84, 0]), (0, 40, []), (13, 0, [86, 0]), (1, 60, []), (13, 0, [88, 0]), (1, 60, []), (13, 0, [90, 0]), (1, 60, []), (13, 0, [92, 0]), (1, 60, []), (9, 0, [94, 0]), (0, 40, []), (9, 0, [96, 0]), (0, 40, []), (9, 0, [98, 0]), (0, 40, []), (15, 0, [100, 101, 102, 103, 104, 105, 106, 107, 108, 109, 0, 110, 111, 112, 0, 1, 1, 0, 113, 114, 115, 116]), (0, 6, []), (0, 240, []), (0, 40, []), (0, 4, []), (1, 240, []), (0, 33, []), (0, 33, []), (0, 33, []), (0, 33, []), (0, 720, []), (0, 99, []), (0, 2160, []), (0, 3, []), (0, 6, []), (0, 61, []), (0, 10, []), (0, 126, [])]
def shp (a : Nat) : am_Sh := am_shT.getD (a - 2) (0, 0, [])
def am_fo (μ : am_M) (a : Nat) : Nat → List Nat → List Value
  | _, [] => []
  | j, 0 :: cs => .int (μ.1 a j) :: am_fo μ a (j + 1) cs
  | j, 1 :: cs => .long (μ.2 a j) :: am_fo μ a (j + 1) cs
  | j, (r + 2) :: cs => .ref (r + 2) :: am_fo μ a (j + 1) cs
def am_co (s : am_Sh) (μ : am_M) (a : Nat) : am_C := match s.1 with
  | 0 => .inl (0, (s.2.1, .inl (μ.1 a)))
  | 1 => .inl (1, (s.2.1, .inl (μ.1 a)))
  | 2 => .inl (2, (s.2.1, .inr (.inl (μ.2 a))))
  | 3 => .inl (3, (s.2.2.length, .inr (.inr (.inr (.inr (fun i => s.2.2[i]?))))))
  | 4 => .inl (4, (s.2.2.length, .inr (.inr (.inr (.inr (fun i => s.2.2[i]?))))))
  | 5 => .inl (5, (s.2.2.length, .inr (.inr (.inr (.inr (fun i => s.2.2[i]?))))))
  | 6 => .inl (6, (s.2.2.length, .inr (.inr (.inr (.inr (fun i => s.2.2[i]?))))))
  | 7 => .inl (7, (s.2.2.length, .inr (.inr (.inr (.inr (fun i => s.2.2[i]?))))))
  | n + 8 => .inr (n, am_fo μ a 0 s.2.2)
def hp (μ : am_M) : am_H := (List.range 115).map (fun k => am_co (shp (k + 2)) μ (k + 2))
abbrev am_in (a : Nat) : Prop := 2 ≤ a ∧ a < 117
theorem hp_get {μ : am_M} {b : Nat} (h : b + 2 < 117) : (hp μ)[b]? = some (am_co (shp (b + 2)) μ (b + 2)) := by
  unfold hp
  rw [List.getElem?_map, List.getElem?_range (by omega)]
  rfl
theorem hp_len (μ : am_M) : (hp μ).length = 115 := by simp [hp]
theorem am_fo_congr {μ μ' : am_M} {a : Nat} (h1 : μ.1 a = μ'.1 a) (h2 : μ.2 a = μ'.2 a) : ∀ (cs : List Nat) (j : Nat), am_fo μ a j cs = am_fo μ' a j cs
  | [], _ => rfl
  | 0 :: cs, j => by unfold am_fo; rw [h1, am_fo_congr h1 h2 cs (j + 1)]
  | 1 :: cs, j => by unfold am_fo; rw [h2, am_fo_congr h1 h2 cs (j + 1)]
  | (r + 2) :: cs, j => by unfold am_fo; rw [am_fo_congr h1 h2 cs (j + 1)]
theorem am_co_congr {s : am_Sh} {μ μ' : am_M} {a : Nat} (h1 : μ.1 a = μ'.1 a) (h2 : μ.2 a = μ'.2 a) : am_co s μ a = am_co s μ' a := by
  unfold am_co
  rw [h1, h2]
  split <;> first | rfl | rw [am_fo_congr h1 h2]
def sI (μ : am_M) (a : Nat) (f : Nat → Int32) : am_M := (fun b => if b = a then f else μ.1 b, μ.2)
def sJ (μ : am_M) (a : Nat) (f : Nat → Int64) : am_M := (μ.1, fun b => if b = a then f else μ.2 b)
theorem sI_same (μ : am_M) (a : Nat) (f : Nat → Int32) : (sI μ a f).1 a = f := if_pos rfl
theorem sI_ne (μ : am_M) {a b : Nat} (f : Nat → Int32) (h : b ≠ a) : (sI μ a f).1 b = μ.1 b := if_neg h
theorem sI_2 (μ : am_M) (a : Nat) (f : Nat → Int32) : (sI μ a f).2 = μ.2 := rfl
theorem sJ_same (μ : am_M) (a : Nat) (f : Nat → Int64) : (sJ μ a f).2 a = f := if_pos rfl
theorem sJ_ne (μ : am_M) {a b : Nat} (f : Nat → Int64) (h : b ≠ a) : (sJ μ a f).2 b = μ.2 b := if_neg h
theorem sJ_1 (μ : am_M) (a : Nat) (f : Nat → Int64) : (sJ μ a f).1 = μ.1 := rfl
theorem hp_set {μ μ' : am_M} {b : Nat} {c : am_C} (hb : b + 2 < 117) (h1 : ∀ a, a ≠ b + 2 → μ.1 a = μ'.1 a) (h2 : ∀ a, a ≠ b + 2 → μ.2 a = μ'.2 a) (hc : c = am_co (shp (b + 2)) μ' (b + 2)) : (hp μ).set b c = hp μ' := by
  apply List.ext_getElem?
  intro i
  by_cases hi : i = b
  · subst hi
    rw [List.getElem?_set_self (by rw [hp_len]; omega), hp_get hb, hc]
  · rw [List.getElem?_set_ne (fun q => hi q.symm)]
    by_cases hl : i + 2 < 117
    · rw [hp_get hl, hp_get hl, am_co_congr (h1 (i + 2) (by omega)) (h2 (i + 2) (by omega))]
    · rw [List.getElem?_eq_none (by rw [hp_len]; omega), List.getElem?_eq_none (by rw [hp_len]; omega)]
theorem am_fo_get {μ : am_M} {a : Nat} : ∀ (cs : List Nat) (o j : Nat), (cs[j]? = some 0 → (am_fo μ a o cs)[j]? = some (.int (μ.1 a (o + j)))) ∧ (cs[j]? = some 1 → (am_fo μ a o cs)[j]? = some (.long (μ.2 a (o + j)))) ∧ (∀ r, cs[j]? = some r → 2 ≤ r → (am_fo μ a o cs)[j]? = some (.ref r))
  | [], o, j => by simp [am_fo]
  | c :: cs, o, 0 => by
    refine ⟨fun h => ?_, fun h => ?_, fun r h h2 => ?_⟩
    · simp at h; subst h; simp [am_fo]
    · simp at h; subst h; simp [am_fo]
    · simp at h; subst h
      obtain ⟨q, rfl⟩ : ∃ q, c = q + 2 := ⟨c - 2, by omega⟩
      simp [am_fo]
  | c :: cs, o, j + 1 => by
    have ih := am_fo_get (μ := μ) (a := a) cs (o + 1) j
    rw [show o + 1 + j = o + (j + 1) by omega] at ih
    match c with
    | 0 => simpa [am_fo] using ih
    | 1 => simpa [am_fo] using ih
    | r + 2 => simpa [am_fo] using ih
theorem am_fo_set {μ : am_M} {a : Nat} {x : Int32} : ∀ (cs : List Nat) (o j : Nat), cs[j]? = some 0 → (am_fo μ a o cs).set j (.int x) = am_fo (sI μ a (upd (μ.1 a) (o + j) x)) a o cs
  | [], o, j, h => by simp at h
  | c :: cs, o, 0, h => by
    simp at h; subst h
    have key : ∀ (cs : List Nat) (p : Nat), o < p → am_fo μ a p cs = am_fo (sI μ a (upd (μ.1 a) o x)) a p cs := by
      intro cs
      induction cs with
      | nil => intro p _; rfl
      | cons c cs ih =>
        intro p hp
        match c with
        | 0 => simp only [am_fo]; rw [ih (p + 1) (by omega), sI_same, pk_un (by omega)]
        | 1 => simp only [am_fo]; rw [ih (p + 1) (by omega)]; rfl
        | r + 2 => simp only [am_fo]; rw [ih (p + 1) (by omega)]
    simp only [am_fo, List.set_cons_zero, Nat.add_zero]
    rw [sI_same, pk_us, ← key cs (o + 1) (by omega)]
  | c :: cs, o, j + 1, h => by
    have ih := am_fo_set (μ := μ) (a := a) (x := x) cs (o + 1) j (by simpa using h)
    rw [show o + 1 + j = o + (j + 1) by omega] at ih
    match c with
    | 0 => simp only [am_fo, List.set_cons_succ]; rw [ih, sI_same, pk_un (by omega)]
    | 1 => simp only [am_fo, List.set_cons_succ]; rw [ih]; rfl
    | r + 2 => simp only [am_fo, List.set_cons_succ]; rw [ih]
theorem am_fo_setJ {μ : am_M} {a : Nat} {x : Int64} : ∀ (cs : List Nat) (o j : Nat), cs[j]? = some 1 → (am_fo μ a o cs).set j (.long x) = am_fo (sJ μ a (vp_updL (μ.2 a) (o + j) x)) a o cs
  | [], o, j, h => by simp at h
  | c :: cs, o, 0, h => by
    simp at h; subst h
    have key : ∀ (cs : List Nat) (p : Nat), o < p → am_fo μ a p cs = am_fo (sJ μ a (vp_updL (μ.2 a) o x)) a p cs := by
      intro cs
      induction cs with
      | nil => intro p _; rfl
      | cons c cs ih =>
        intro p hp
        match c with
        | 0 => simp only [am_fo]; rw [ih (p + 1) (by omega)]; rfl
        | 1 => simp only [am_fo]; rw [ih (p + 1) (by omega), sJ_same, pk_uLn (by omega)]
        | r + 2 => simp only [am_fo]; rw [ih (p + 1) (by omega)]
    simp only [am_fo, List.set_cons_zero, Nat.add_zero]
    rw [sJ_same, pk_uLs, ← key cs (o + 1) (by omega)]
  | c :: cs, o, j + 1, h => by
    have ih := am_fo_setJ (μ := μ) (a := a) (x := x) cs (o + 1) j (by simpa using h)
    rw [show o + 1 + j = o + (j + 1) by omega] at ih
    match c with
    | 0 => simp only [am_fo, List.set_cons_succ]; rw [ih]; rfl
    | 1 => simp only [am_fo, List.set_cons_succ]; rw [ih, sJ_same, pk_uLn (by omega)]
    | r + 2 => simp only [am_fo, List.set_cons_succ]; rw [ih]
theorem am_fo_len {μ : am_M} {a : Nat} : ∀ (cs : List Nat) (o : Nat), (am_fo μ a o cs).length = cs.length
  | [], _ => rfl
  | 0 :: cs, o => by simp [am_fo, am_fo_len cs (o + 1)]
  | 1 :: cs, o => by simp [am_fo, am_fo_len cs (o + 1)]
  | (r + 2) :: cs, o => by simp [am_fo, am_fo_len cs (o + 1)]
def tw (X : Nat × (Nat → Int32)) (d : Nat) (k : am_K) (Q : Option Value → am_M → Prop) (pc : Nat) (L S : List Value) (μ : am_M) : Prop := wh X (am_C_ X d) k (fun r h' => ∃ μ', h' = hp μ' ∧ Q r μ') pc L S (hp μ)
def cp (X : Nat × (Nat → Int32)) (d : Nat) (y : am_K) (vs : List Value) (μ : am_M) (Q : Option Value → am_M → Prop) : Prop := ∃ r μ', am_C_ X d y vs (hp μ) r (hp μ') ∧ Q r μ'
abbrev qi (Q : Int32 → am_M → Prop) : Option Value → am_M → Prop := fun r μ => ∃ v, r = some (.int v) ∧ Q v μ
abbrev ql (Q : Int64 → am_M → Prop) : Option Value → am_M → Prop := fun r μ => ∃ v, r = some (.long v) ∧ Q v μ
abbrev qv (Q : am_M → Prop) : Option Value → am_M → Prop := fun r μ => r = none ∧ Q μ
theorem am_cl_id {v : Value} (h : v.category = 1) : am_cl v = v := by cases v <;> first | rfl | (simp [Value.category] at h)
theorem am_m1 (x : Int32) : x + Int32.ofInt (-1) = x - 1 := by
  rw [Int32.sub_eq_add_neg]; rfl
theorem tw_mono {X : Nat × (Nat → Int32)} {d : Nat} {k : am_K} {Q Q' : Option Value → am_M → Prop} {pc : Nat} {L S : List Value} {μ : am_M} (h : tw X d k Q pc L S μ) (hq : ∀ r μ', Q r μ' → Q' r μ') : tw X d k Q' pc L S μ := by
  obtain ⟨r, h', ⟨μ', e, q⟩, hr⟩ := h
  exact ⟨r, h', ⟨μ', e, hq _ _ q⟩, hr⟩
theorem cp_mono {X : Nat × (Nat → Int32)} {d : Nat} {y : am_K} {vs : List Value} {μ : am_M} {Q Q' : Option Value → am_M → Prop} (h : cp X d y vs μ Q) (hq : ∀ r μ', Q r μ' → Q' r μ') : cp X d y vs μ Q' := by
  obtain ⟨r, μ', hc, q⟩ := h
  exact ⟨r, μ', hc, hq _ _ q⟩
theorem cp_of {X : Nat × (Nat → Int32)} {d : Nat} {y : am_K} {vs L : List Value} {μ : am_M} {Q : Option Value → am_M → Prop} (ok : am_ok y) (hL : am_eL vs y.2.2.1 = L) (h : tw X d y Q 0 L [] μ) (hnd : am_nd vs = true := by rfl) (hlen : (am_lay vs).length ≤ y.2.2.1 := by exact Nat.le_of_ble_eq_true rfl) : cp X (d + 1) y vs μ Q := by
  obtain ⟨r, h', ⟨μ', e, q⟩, hr⟩ := h
  subst e
  exact ⟨r, μ', ⟨ok, hnd, hlen, by rw [hL]; exact hr⟩, q⟩
theorem tr_iconst {X : Nat × (Nat → Int32)} {d : Nat} {k : am_K} {Q : Option Value → am_M → Prop} {pc : Nat} {L S : List Value} {μ : am_M} {n : Int} {v : Int32} (p0 : decode k.2.1 pc = .ok (.iconst n, 1)) (p1 : (Int32.ofInt n = v)) (p2 : tw X d k Q (pc + 1) (L) (.int v :: S) μ) : tw X d k Q pc L (S) μ := w_iconst _ _ _ _ _ _ p0 p1 p2
theorem tr_bipush {X : Nat × (Nat → Int32)} {d : Nat} {k : am_K} {Q : Option Value → am_M → Prop} {pc : Nat} {L S : List Value} {μ : am_M} {n : Int} {v : Int32} (p0 : decode k.2.1 pc = .ok (.bipush n, 2)) (p1 : ((Int8.ofInt n).toInt32 = v)) (p2 : tw X d k Q (pc + 2) (L) (.int v :: S) μ) : tw X d k Q pc L (S) μ := w_bipush _ _ _ _ _ _ p0 p1 p2
theorem tr_sipush {X : Nat × (Nat → Int32)} {d : Nat} {k : am_K} {Q : Option Value → am_M → Prop} {pc : Nat} {L S : List Value} {μ : am_M} {n : Int} {v : Int32} (p0 : decode k.2.1 pc = .ok (.sipush n, 3)) (p1 : ((Int16.ofInt n).toInt32 = v)) (p2 : tw X d k Q (pc + 3) (L) (.int v :: S) μ) : tw X d k Q pc L (S) μ := w_sipush _ _ _ _ _ _ p0 p1 p2
theorem tr_lconst {X : Nat × (Nat → Int32)} {d : Nat} {k : am_K} {Q : Option Value → am_M → Prop} {pc : Nat} {L S : List Value} {μ : am_M} {n : Fin 2} {v : Int64} (p0 : decode k.2.1 pc = .ok (.lconst n, 1)) (p1 : (Int64.ofNat (n : Nat) = v)) (p2 : tw X d k Q (pc + 1) (L) (.long v :: S) μ) : tw X d k Q pc L (S) μ := w_lconst _ _ _ _ _ _ p0 p1 p2
theorem tr_iload_n {X : Nat × (Nat → Int32)} {d : Nat} {k : am_K} {Q : Option Value → am_M → Prop} {pc : Nat} {L S : List Value} {μ : am_M} {q : Fin 4} {x : Int32} (p0 : decode k.2.1 pc = .ok (.iload_n q, 1)) (p1 : (L[(q : Nat)]? = some (.int x))) (p2 : tw X d k Q (pc + 1) (L) (.int x :: S) μ) : tw X d k Q pc L (S) μ := w_iload_n _ _ _ _ _ _ p0 p1 p2
theorem tr_iload {X : Nat × (Nat → Int32)} {d : Nat} {k : am_K} {Q : Option Value → am_M → Prop} {pc : Nat} {L S : List Value} {μ : am_M} {q : Nat} {x : Int32} (p0 : decode k.2.1 pc = .ok (.iload q, 2)) (p1 : (L[q]? = some (.int x))) (p2 : tw X d k Q (pc + 2) (L) (.int x :: S) μ) : tw X d k Q pc L (S) μ := w_iload _ _ _ _ _ _ p0 p1 p2
theorem tr_lload_n {X : Nat × (Nat → Int32)} {d : Nat} {k : am_K} {Q : Option Value → am_M → Prop} {pc : Nat} {L S : List Value} {μ : am_M} {q : Fin 4} {x : Int64} (p0 : decode k.2.1 pc = .ok (.lload_n q, 1)) (p1 : (L[(q : Nat)]? = some (.long x))) (p2 : tw X d k Q (pc + 1) (L) (.long x :: S) μ) : tw X d k Q pc L (S) μ := w_lload_n _ _ _ _ _ _ p0 p1 p2
theorem tr_lload {X : Nat × (Nat → Int32)} {d : Nat} {k : am_K} {Q : Option Value → am_M → Prop} {pc : Nat} {L S : List Value} {μ : am_M} {q : Nat} {x : Int64} (p0 : decode k.2.1 pc = .ok (.lload q, 2)) (p1 : (L[q]? = some (.long x))) (p2 : tw X d k Q (pc + 2) (L) (.long x :: S) μ) : tw X d k Q pc L (S) μ := w_lload _ _ _ _ _ _ p0 p1 p2
theorem tr_aload_n {X : Nat × (Nat → Int32)} {d : Nat} {k : am_K} {Q : Option Value → am_M → Prop} {pc : Nat} {L S : List Value} {μ : am_M} {q : Fin 4} {x : Nat} (p0 : decode k.2.1 pc = .ok (.aload_n q, 1)) (p1 : (L[(q : Nat)]? = some (.ref x))) (p2 : tw X d k Q (pc + 1) (L) (.ref x :: S) μ) : tw X d k Q pc L (S) μ := w_aload_n _ _ _ _ _ _ p0 p1 p2
theorem tr_aload {X : Nat × (Nat → Int32)} {d : Nat} {k : am_K} {Q : Option Value → am_M → Prop} {pc : Nat} {L S : List Value} {μ : am_M} {q : Nat} {x : Nat} (p0 : decode k.2.1 pc = .ok (.aload q, 2)) (p1 : (L[q]? = some (.ref x))) (p2 : tw X d k Q (pc + 2) (L) (.ref x :: S) μ) : tw X d k Q pc L (S) μ := w_aload _ _ _ _ _ _ p0 p1 p2
theorem tr_iadd {X : Nat × (Nat → Int32)} {d : Nat} {k : am_K} {Q : Option Value → am_M → Prop} {pc : Nat} {L S : List Value} {μ : am_M} {x y : Int32} (p0 : decode k.2.1 pc = .ok (.iadd, 1)) (p1 : tw X d k Q (pc + 1) (L) (.int (x + y) :: S) μ) : tw X d k Q pc L (.int y :: .int x :: S) μ := w_iadd _ _ _ _ _ _ p0 p1
theorem tr_isub {X : Nat × (Nat → Int32)} {d : Nat} {k : am_K} {Q : Option Value → am_M → Prop} {pc : Nat} {L S : List Value} {μ : am_M} {x y : Int32} (p0 : decode k.2.1 pc = .ok (.isub, 1)) (p1 : tw X d k Q (pc + 1) (L) (.int (x - y) :: S) μ) : tw X d k Q pc L (.int y :: .int x :: S) μ := w_isub _ _ _ _ _ _ p0 p1
theorem tr_imul {X : Nat × (Nat → Int32)} {d : Nat} {k : am_K} {Q : Option Value → am_M → Prop} {pc : Nat} {L S : List Value} {μ : am_M} {x y : Int32} (p0 : decode k.2.1 pc = .ok (.imul, 1)) (p1 : tw X d k Q (pc + 1) (L) (.int (x * y) :: S) μ) : tw X d k Q pc L (.int y :: .int x :: S) μ := w_imul _ _ _ _ _ _ p0 p1
theorem tr_iand {X : Nat × (Nat → Int32)} {d : Nat} {k : am_K} {Q : Option Value → am_M → Prop} {pc : Nat} {L S : List Value} {μ : am_M} {x y : Int32} (p0 : decode k.2.1 pc = .ok (.iand, 1)) (p1 : tw X d k Q (pc + 1) (L) (.int (x &&& y) :: S) μ) : tw X d k Q pc L (.int y :: .int x :: S) μ := w_iand _ _ _ _ _ _ p0 p1
theorem tr_ior {X : Nat × (Nat → Int32)} {d : Nat} {k : am_K} {Q : Option Value → am_M → Prop} {pc : Nat} {L S : List Value} {μ : am_M} {x y : Int32} (p0 : decode k.2.1 pc = .ok (.ior, 1)) (p1 : tw X d k Q (pc + 1) (L) (.int (x ||| y) :: S) μ) : tw X d k Q pc L (.int y :: .int x :: S) μ := w_ior _ _ _ _ _ _ p0 p1
theorem tr_ixor {X : Nat × (Nat → Int32)} {d : Nat} {k : am_K} {Q : Option Value → am_M → Prop} {pc : Nat} {L S : List Value} {μ : am_M} {x y : Int32} (p0 : decode k.2.1 pc = .ok (.ixor, 1)) (p1 : tw X d k Q (pc + 1) (L) (.int (x ^^^ y) :: S) μ) : tw X d k Q pc L (.int y :: .int x :: S) μ := w_ixor _ _ _ _ _ _ p0 p1
theorem tr_ishl {X : Nat × (Nat → Int32)} {d : Nat} {k : am_K} {Q : Option Value → am_M → Prop} {pc : Nat} {L S : List Value} {μ : am_M} {x y : Int32} (p0 : decode k.2.1 pc = .ok (.ishl, 1)) (p1 : tw X d k Q (pc + 1) (L) (.int (x <<< (y &&& 31)) :: S) μ) : tw X d k Q pc L (.int y :: .int x :: S) μ := w_ishl _ _ _ _ _ _ p0 p1
theorem tr_ishr {X : Nat × (Nat → Int32)} {d : Nat} {k : am_K} {Q : Option Value → am_M → Prop} {pc : Nat} {L S : List Value} {μ : am_M} {x y : Int32} (p0 : decode k.2.1 pc = .ok (.ishr, 1)) (p1 : tw X d k Q (pc + 1) (L) (.int (x >>> (y &&& 31)) :: S) μ) : tw X d k Q pc L (.int y :: .int x :: S) μ := w_ishr _ _ _ _ _ _ p0 p1
theorem tr_iushr {X : Nat × (Nat → Int32)} {d : Nat} {k : am_K} {Q : Option Value → am_M → Prop} {pc : Nat} {L S : List Value} {μ : am_M} {x y : Int32} (p0 : decode k.2.1 pc = .ok (.iushr, 1)) (p1 : tw X d k Q (pc + 1) (L) (.int (x.toUInt32 >>> (y.toUInt32 &&& Int32.toUInt32 31)).toInt32 :: S) μ) : tw X d k Q pc L (.int y :: .int x :: S) μ := w_iushr _ _ _ _ _ _ p0 p1
theorem tr_idiv {X : Nat × (Nat → Int32)} {d : Nat} {k : am_K} {Q : Option Value → am_M → Prop} {pc : Nat} {L S : List Value} {μ : am_M} {x y : Int32} (p0 : decode k.2.1 pc = .ok (.idiv, 1)) (p1 : (¬ y = 0)) (p2 : tw X d k Q (pc + 1) (L) (.int (x / y) :: S) μ) : tw X d k Q pc L (.int y :: .int x :: S) μ := w_idiv _ _ _ _ _ _ p0 p1 p2
theorem tr_irem {X : Nat × (Nat → Int32)} {d : Nat} {k : am_K} {Q : Option Value → am_M → Prop} {pc : Nat} {L S : List Value} {μ : am_M} {x y : Int32} (p0 : decode k.2.1 pc = .ok (.irem, 1)) (p1 : (¬ y = 0)) (p2 : tw X d k Q (pc + 1) (L) (.int (x - x / y * y) :: S) μ) : tw X d k Q pc L (.int y :: .int x :: S) μ := w_irem _ _ _ _ _ _ p0 p1 p2
theorem tr_ladd {X : Nat × (Nat → Int32)} {d : Nat} {k : am_K} {Q : Option Value → am_M → Prop} {pc : Nat} {L S : List Value} {μ : am_M} {x y : Int64} (p0 : decode k.2.1 pc = .ok (.ladd, 1)) (p1 : tw X d k Q (pc + 1) (L) (.long (x + y) :: S) μ) : tw X d k Q pc L (.long y :: .long x :: S) μ := w_ladd _ _ _ _ _ _ p0 p1
theorem tr_lsub {X : Nat × (Nat → Int32)} {d : Nat} {k : am_K} {Q : Option Value → am_M → Prop} {pc : Nat} {L S : List Value} {μ : am_M} {x y : Int64} (p0 : decode k.2.1 pc = .ok (.lsub, 1)) (p1 : tw X d k Q (pc + 1) (L) (.long (x - y) :: S) μ) : tw X d k Q pc L (.long y :: .long x :: S) μ := w_lsub _ _ _ _ _ _ p0 p1
theorem tr_lmul {X : Nat × (Nat → Int32)} {d : Nat} {k : am_K} {Q : Option Value → am_M → Prop} {pc : Nat} {L S : List Value} {μ : am_M} {x y : Int64} (p0 : decode k.2.1 pc = .ok (.lmul, 1)) (p1 : tw X d k Q (pc + 1) (L) (.long (x * y) :: S) μ) : tw X d k Q pc L (.long y :: .long x :: S) μ := w_lmul _ _ _ _ _ _ p0 p1
theorem tr_ldiv {X : Nat × (Nat → Int32)} {d : Nat} {k : am_K} {Q : Option Value → am_M → Prop} {pc : Nat} {L S : List Value} {μ : am_M} {x y : Int64} (p0 : decode k.2.1 pc = .ok (.ldiv, 1)) (p1 : (¬ y = 0)) (p2 : tw X d k Q (pc + 1) (L) (.long (x / y) :: S) μ) : tw X d k Q pc L (.long y :: .long x :: S) μ := w_ldiv _ _ _ _ _ _ p0 p1 p2
theorem tr_lrem {X : Nat × (Nat → Int32)} {d : Nat} {k : am_K} {Q : Option Value → am_M → Prop} {pc : Nat} {L S : List Value} {μ : am_M} {x y : Int64} (p0 : decode k.2.1 pc = .ok (.lrem, 1)) (p1 : (¬ y = 0)) (p2 : tw X d k Q (pc + 1) (L) (.long (x - x / y * y) :: S) μ) : tw X d k Q pc L (.long y :: .long x :: S) μ := w_lrem _ _ _ _ _ _ p0 p1 p2
theorem tr_i2l {X : Nat × (Nat → Int32)} {d : Nat} {k : am_K} {Q : Option Value → am_M → Prop} {pc : Nat} {L S : List Value} {μ : am_M} {x : Int32} (p0 : decode k.2.1 pc = .ok (.i2l, 1)) (p1 : tw X d k Q (pc + 1) (L) (.long x.toInt64 :: S) μ) : tw X d k Q pc L (.int x :: S) μ := w_i2l _ _ _ _ _ p0 p1
theorem tr_l2i {X : Nat × (Nat → Int32)} {d : Nat} {k : am_K} {Q : Option Value → am_M → Prop} {pc : Nat} {L S : List Value} {μ : am_M} {x : Int64} (p0 : decode k.2.1 pc = .ok (.l2i, 1)) (p1 : tw X d k Q (pc + 1) (L) (.int x.toInt32 :: S) μ) : tw X d k Q pc L (.long x :: S) μ := w_l2i _ _ _ _ _ p0 p1
theorem tr_i2b {X : Nat × (Nat → Int32)} {d : Nat} {k : am_K} {Q : Option Value → am_M → Prop} {pc : Nat} {L S : List Value} {μ : am_M} {x : Int32} (p0 : decode k.2.1 pc = .ok (.i2b, 1)) (p1 : tw X d k Q (pc + 1) (L) (.int x.toInt8.toInt32 :: S) μ) : tw X d k Q pc L (.int x :: S) μ := w_i2b _ _ _ _ _ p0 p1
theorem tr_lcmp {X : Nat × (Nat → Int32)} {d : Nat} {k : am_K} {Q : Option Value → am_M → Prop} {pc : Nat} {L S : List Value} {μ : am_M} {x y : Int64} (p0 : decode k.2.1 pc = .ok (.lcmp, 1)) (p1 : tw X d k Q (pc + 1) (L) (.int (lg_cmp x y) :: S) μ) : tw X d k Q pc L (.long y :: .long x :: S) μ := w_lcmp _ _ _ _ _ _ p0 p1
theorem tr_dup {X : Nat × (Nat → Int32)} {d : Nat} {k : am_K} {Q : Option Value → am_M → Prop} {pc : Nat} {L S : List Value} {μ : am_M} {v : Value} (p0 : decode k.2.1 pc = .ok (.dup, 1)) (p1 : (v.category = 1)) (p2 : tw X d k Q (pc + 1) (L) (v :: v :: S) μ) : tw X d k Q pc L (v :: S) μ := w_dup _ _ _ _ _ p0 p1 p2
theorem tr_pop {X : Nat × (Nat → Int32)} {d : Nat} {k : am_K} {Q : Option Value → am_M → Prop} {pc : Nat} {L S : List Value} {μ : am_M} {v : Value} (p0 : decode k.2.1 pc = .ok (.pop, 1)) (p1 : (v.category = 1)) (p2 : tw X d k Q (pc + 1) (L) (S) μ) : tw X d k Q pc L (v :: S) μ := w_pop _ _ _ _ _ p0 p1 p2
theorem tr_dup2 {X : Nat × (Nat → Int32)} {d : Nat} {k : am_K} {Q : Option Value → am_M → Prop} {pc : Nat} {L S : List Value} {μ : am_M} {v w : Value} (p0 : decode k.2.1 pc = .ok (.dup2, 1)) (p1 : (v.category = 1)) (p2 : (w.category = 1)) (p3 : tw X d k Q (pc + 1) (L) (v :: w :: v :: w :: S) μ) : tw X d k Q pc L (v :: w :: S) μ := w_dup2 _ _ _ _ _ _ p0 p1 p2 p3
theorem tr_goto {X : Nat × (Nat → Int32)} {d : Nat} {k : am_K} {Q : Option Value → am_M → Prop} {pc : Nat} {L S : List Value} {μ : am_M} {off : Int} {tgt : Nat} (p0 : decode k.2.1 pc = .ok (.goto off, 3)) (p1 : (pc : Int) + off = (tgt : Int)) (p2 : tw X d k Q tgt L S μ) : tw X d k Q pc L S μ := w_goto _ _ _ _ _ _ p0 p1 p2
theorem tr_tableIn {X : Nat × (Nat → Int32)} {d : Nat} {k : am_K} {Q : Option Value → am_M → Prop} {pc : Nat} {L S : List Value} {μ : am_M} {x : Int32} {dflt lo hi : Int} {offs : Array Int} {len : Nat} {off : Int} {tgt : Nat} (p0 : decode k.2.1 pc = .ok (.tableswitch dflt lo hi offs, len)) (p1 : ¬ x.toInt < lo) (p2 : ¬ hi < x.toInt) (p3 : offs[(x.toInt - lo).toNat]? = some off) (p4 : (pc : Int) + off = (tgt : Int)) (p5 : tw X d k Q tgt L S μ) : tw X d k Q pc L (.int x :: S) μ := w_tableIn _ _ _ _ _ _ _ _ _ _ _ _ p0 p1 p2 p3 p4 p5
theorem tr_tableOut {X : Nat × (Nat → Int32)} {d : Nat} {k : am_K} {Q : Option Value → am_M → Prop} {pc : Nat} {L S : List Value} {μ : am_M} {x : Int32} {dflt lo hi : Int} {offs : Array Int} {len : Nat} {tgt : Nat} (p0 : decode k.2.1 pc = .ok (.tableswitch dflt lo hi offs, len)) (p1 : (x.toInt < lo ∨ hi < x.toInt)) (p2 : (pc : Int) + dflt = (tgt : Int)) (p3 : tw X d k Q tgt L S μ) : tw X d k Q pc L (.int x :: S) μ := w_tableOut _ _ _ _ _ _ _ _ _ _ _ p0 p1 p2 p3
theorem tr_ldc {X : Nat × (Nat → Int32)} {d : Nat} {k : am_K} {Q : Option Value → am_M → Prop} {pc : Nat} {L S : List Value} {μ : am_M} {idx : Nat} {v : Int32} (p0 : decode k.2.1 pc = .ok (.ldc idx, 2)) (p1 : (Cond.constant k.1.cls idx v ∈ am_tb)) (p2 : tw X d k Q (pc + 2) (L) (.int v :: S) μ) : tw X d k Q pc L (S) μ := w_ldc _ _ _ _ _ _ p0 p1 p2
theorem tr_ldc_w {X : Nat × (Nat → Int32)} {d : Nat} {k : am_K} {Q : Option Value → am_M → Prop} {pc : Nat} {L S : List Value} {μ : am_M} {idx : Nat} {v : Int32} (p0 : decode k.2.1 pc = .ok (.ldc_w idx, 3)) (p1 : (Cond.constant k.1.cls idx v ∈ am_tb)) (p2 : tw X d k Q (pc + 3) (L) (.int v :: S) μ) : tw X d k Q pc L (S) μ := w_ldc_w _ _ _ _ _ _ p0 p1 p2
theorem tr_ldc2 {X : Nat × (Nat → Int32)} {d : Nat} {k : am_K} {Q : Option Value → am_M → Prop} {pc : Nat} {L S : List Value} {μ : am_M} {idx : Nat} {v : Int64} (p0 : decode k.2.1 pc = .ok (.ldc2_w idx, 3)) (p1 : (Cond.constantLong k.1.cls idx v ∈ am_tb)) (p2 : tw X d k Q (pc + 3) (L) (.long v :: S) μ) : tw X d k Q pc L (S) μ := w_ldc2 _ _ _ _ _ _ p0 p1 p2
theorem tr_getLet {X : Nat × (Nat → Int32)} {d : Nat} {k : am_K} {Q : Option Value → am_M → Prop} {pc : Nat} {L S : List Value} {μ : am_M} {idx : Nat} {host : String} (p0 : decode k.2.1 pc = .ok (.getstatic idx, 3)) (p1 : (Cond.fieldLinkNest k.1.cls idx "FlapBoard" "LETTERS" "[I" host ∈ am_nw)) (p2 : tw X d k Q (pc + 3) (L) (.ref 1 :: S) μ) : tw X d k Q pc L (S) μ := w_getLet _ _ _ _ _ _ p0 p1 p2
theorem tr_if_eq {X : Nat × (Nat → Int32)} {d : Nat} {k : am_K} {Q : Option Value → am_M → Prop} {pc : Nat} {L S : List Value} {μ : am_M} {x : Int32} {off : Int} {tgt : Nat} (p0 : decode k.2.1 pc = .ok (.ifCond .eq off, 3)) (p1 : (pc : Int) + off = (tgt : Int)) (p2 : (x = 0 → tw X d k Q tgt L S μ)) (p3 : (¬ x = 0 → tw X d k Q (pc + 3) L S μ)) : tw X d k Q pc L (.int x :: S) μ := w_if_eq _ _ _ _ _ _ _ p0 p1 p2 p3
theorem tr_if_ne {X : Nat × (Nat → Int32)} {d : Nat} {k : am_K} {Q : Option Value → am_M → Prop} {pc : Nat} {L S : List Value} {μ : am_M} {x : Int32} {off : Int} {tgt : Nat} (p0 : decode k.2.1 pc = .ok (.ifCond .ne off, 3)) (p1 : (pc : Int) + off = (tgt : Int)) (p2 : (¬ x = 0 → tw X d k Q tgt L S μ)) (p3 : (x = 0 → tw X d k Q (pc + 3) L S μ)) : tw X d k Q pc L (.int x :: S) μ := w_if_ne _ _ _ _ _ _ _ p0 p1 p2 p3
theorem tr_if_lt {X : Nat × (Nat → Int32)} {d : Nat} {k : am_K} {Q : Option Value → am_M → Prop} {pc : Nat} {L S : List Value} {μ : am_M} {x : Int32} {off : Int} {tgt : Nat} (p0 : decode k.2.1 pc = .ok (.ifCond .lt off, 3)) (p1 : (pc : Int) + off = (tgt : Int)) (p2 : (x < 0 → tw X d k Q tgt L S μ)) (p3 : (¬ x < 0 → tw X d k Q (pc + 3) L S μ)) : tw X d k Q pc L (.int x :: S) μ := w_if_lt _ _ _ _ _ _ _ p0 p1 p2 p3
theorem tr_if_ge {X : Nat × (Nat → Int32)} {d : Nat} {k : am_K} {Q : Option Value → am_M → Prop} {pc : Nat} {L S : List Value} {μ : am_M} {x : Int32} {off : Int} {tgt : Nat} (p0 : decode k.2.1 pc = .ok (.ifCond .ge off, 3)) (p1 : (pc : Int) + off = (tgt : Int)) (p2 : (0 ≤ x → tw X d k Q tgt L S μ)) (p3 : (¬ 0 ≤ x → tw X d k Q (pc + 3) L S μ)) : tw X d k Q pc L (.int x :: S) μ := w_if_ge _ _ _ _ _ _ _ p0 p1 p2 p3
theorem tr_if_gt {X : Nat × (Nat → Int32)} {d : Nat} {k : am_K} {Q : Option Value → am_M → Prop} {pc : Nat} {L S : List Value} {μ : am_M} {x : Int32} {off : Int} {tgt : Nat} (p0 : decode k.2.1 pc = .ok (.ifCond .gt off, 3)) (p1 : (pc : Int) + off = (tgt : Int)) (p2 : (0 < x → tw X d k Q tgt L S μ)) (p3 : (¬ 0 < x → tw X d k Q (pc + 3) L S μ)) : tw X d k Q pc L (.int x :: S) μ := w_if_gt _ _ _ _ _ _ _ p0 p1 p2 p3
theorem tr_if_le {X : Nat × (Nat → Int32)} {d : Nat} {k : am_K} {Q : Option Value → am_M → Prop} {pc : Nat} {L S : List Value} {μ : am_M} {x : Int32} {off : Int} {tgt : Nat} (p0 : decode k.2.1 pc = .ok (.ifCond .le off, 3)) (p1 : (pc : Int) + off = (tgt : Int)) (p2 : (x ≤ 0 → tw X d k Q tgt L S μ)) (p3 : (¬ x ≤ 0 → tw X d k Q (pc + 3) L S μ)) : tw X d k Q pc L (.int x :: S) μ := w_if_le _ _ _ _ _ _ _ p0 p1 p2 p3
theorem tr_icmp_eq {X : Nat × (Nat → Int32)} {d : Nat} {k : am_K} {Q : Option Value → am_M → Prop} {pc : Nat} {L S : List Value} {μ : am_M} {x y : Int32} {off : Int} {tgt : Nat} (p0 : decode k.2.1 pc = .ok (.if_icmp .eq off, 3)) (p1 : (pc : Int) + off = (tgt : Int)) (p2 : (x = y → tw X d k Q tgt L S μ)) (p3 : (¬ x = y → tw X d k Q (pc + 3) L S μ)) : tw X d k Q pc L (.int y :: .int x :: S) μ := w_icmp_eq _ _ _ _ _ _ _ _ p0 p1 p2 p3
theorem tr_icmp_ne {X : Nat × (Nat → Int32)} {d : Nat} {k : am_K} {Q : Option Value → am_M → Prop} {pc : Nat} {L S : List Value} {μ : am_M} {x y : Int32} {off : Int} {tgt : Nat} (p0 : decode k.2.1 pc = .ok (.if_icmp .ne off, 3)) (p1 : (pc : Int) + off = (tgt : Int)) (p2 : (¬ x = y → tw X d k Q tgt L S μ)) (p3 : (x = y → tw X d k Q (pc + 3) L S μ)) : tw X d k Q pc L (.int y :: .int x :: S) μ := w_icmp_ne _ _ _ _ _ _ _ _ p0 p1 p2 p3
theorem tr_icmp_lt {X : Nat × (Nat → Int32)} {d : Nat} {k : am_K} {Q : Option Value → am_M → Prop} {pc : Nat} {L S : List Value} {μ : am_M} {x y : Int32} {off : Int} {tgt : Nat} (p0 : decode k.2.1 pc = .ok (.if_icmp .lt off, 3)) (p1 : (pc : Int) + off = (tgt : Int)) (p2 : (x < y → tw X d k Q tgt L S μ)) (p3 : (¬ x < y → tw X d k Q (pc + 3) L S μ)) : tw X d k Q pc L (.int y :: .int x :: S) μ := w_icmp_lt _ _ _ _ _ _ _ _ p0 p1 p2 p3
theorem tr_icmp_ge {X : Nat × (Nat → Int32)} {d : Nat} {k : am_K} {Q : Option Value → am_M → Prop} {pc : Nat} {L S : List Value} {μ : am_M} {x y : Int32} {off : Int} {tgt : Nat} (p0 : decode k.2.1 pc = .ok (.if_icmp .ge off, 3)) (p1 : (pc : Int) + off = (tgt : Int)) (p2 : (y ≤ x → tw X d k Q tgt L S μ)) (p3 : (¬ y ≤ x → tw X d k Q (pc + 3) L S μ)) : tw X d k Q pc L (.int y :: .int x :: S) μ := w_icmp_ge _ _ _ _ _ _ _ _ p0 p1 p2 p3
theorem tr_icmp_gt {X : Nat × (Nat → Int32)} {d : Nat} {k : am_K} {Q : Option Value → am_M → Prop} {pc : Nat} {L S : List Value} {μ : am_M} {x y : Int32} {off : Int} {tgt : Nat} (p0 : decode k.2.1 pc = .ok (.if_icmp .gt off, 3)) (p1 : (pc : Int) + off = (tgt : Int)) (p2 : (y < x → tw X d k Q tgt L S μ)) (p3 : (¬ y < x → tw X d k Q (pc + 3) L S μ)) : tw X d k Q pc L (.int y :: .int x :: S) μ := w_icmp_gt _ _ _ _ _ _ _ _ p0 p1 p2 p3
theorem tr_icmp_le {X : Nat × (Nat → Int32)} {d : Nat} {k : am_K} {Q : Option Value → am_M → Prop} {pc : Nat} {L S : List Value} {μ : am_M} {x y : Int32} {off : Int} {tgt : Nat} (p0 : decode k.2.1 pc = .ok (.if_icmp .le off, 3)) (p1 : (pc : Int) + off = (tgt : Int)) (p2 : (x ≤ y → tw X d k Q tgt L S μ)) (p3 : (¬ x ≤ y → tw X d k Q (pc + 3) L S μ)) : tw X d k Q pc L (.int y :: .int x :: S) μ := w_icmp_le _ _ _ _ _ _ _ _ p0 p1 p2 p3
theorem tr_istore_n_0 {X : Nat × (Nat → Int32)} {d : Nat} {k : am_K} {Q : Option Value → am_M → Prop} {pc : Nat} {L S : List Value} {μ : am_M} {l0 : Value} {x : Int32} (hd : decode k.2.1 pc = .ok (.istore_n 0, 1)) (hn : 0 < k.2.2.1) (h : tw X d k Q (pc + 1) (.int x :: L) S μ) : tw X d k Q pc (l0 :: L) (.int x :: S) μ := by
  have e : am_st1 (l0 :: L) 0 (.int x) = .int x :: L := by simp only [am_st1]
  rw [← e] at h
  exact w_istore_n _ _ _ _ _ _ hd hn h
theorem tr_astore_n_0 {X : Nat × (Nat → Int32)} {d : Nat} {k : am_K} {Q : Option Value → am_M → Prop} {pc : Nat} {L S : List Value} {μ : am_M} {l0 : Value} {x : Nat} (hd : decode k.2.1 pc = .ok (.astore_n 0, 1)) (hn : 0 < k.2.2.1) (h : tw X d k Q (pc + 1) (.ref x :: L) S μ) : tw X d k Q pc (l0 :: L) (.ref x :: S) μ := by
  have e : am_st1 (l0 :: L) 0 (.ref x) = .ref x :: L := by simp only [am_st1]
  rw [← e] at h
  exact w_astore_n _ _ _ _ _ _ hd hn h
theorem tr_lstore_n_0 {X : Nat × (Nat → Int32)} {d : Nat} {k : am_K} {Q : Option Value → am_M → Prop} {pc : Nat} {L S : List Value} {μ : am_M} {l0 m1 : Value} {x : Int64} (hd : decode k.2.1 pc = .ok (.lstore_n 0, 1)) (hn : 0 + 1 < k.2.2.1) (h : tw X d k Q (pc + 1) (.long x :: .float 0 :: L) S μ) : tw X d k Q pc (l0 :: m1 :: L) (.long x :: S) μ := by
  have e : am_st2 (l0 :: m1 :: L) 0 (.long x) = .long x :: .float 0 :: L := by simp only [am_st2]
  rw [← e] at h
  exact w_lstore_n _ _ _ _ _ _ hd hn h
theorem tr_iinc_0 {X : Nat × (Nat → Int32)} {d : Nat} {k : am_K} {Q : Option Value → am_M → Prop} {pc : Nat} {L S : List Value} {μ : am_M} {x : Int32} (hd : decode k.2.1 pc = .ok (.iinc 0 1, 3)) (hn : 0 < k.2.2.1) (h : tw X d k Q (pc + 3) (.int (x + 1) :: L) S μ) : tw X d k Q pc (.int x :: L) S μ := by
  have e : am_st1 (.int x :: L) 0 (.int (x + 1)) = .int (x + 1) :: L := by simp only [am_st1]
  rw [← e] at h
  exact w_iinc _ _ _ _ _ _ x _ hd rfl rfl hn h
theorem tr_iincm_0 {X : Nat × (Nat → Int32)} {d : Nat} {k : am_K} {Q : Option Value → am_M → Prop} {pc : Nat} {L S : List Value} {μ : am_M} {x : Int32} (hd : decode k.2.1 pc = .ok (.iinc 0 (-1), 3)) (hn : 0 < k.2.2.1) (h : tw X d k Q (pc + 3) (.int (x - 1) :: L) S μ) : tw X d k Q pc (.int x :: L) S μ := by
  have e : am_st1 (.int x :: L) 0 (.int (x - 1)) = .int (x - 1) :: L := by simp only [am_st1]
  rw [← e] at h
  exact w_iinc _ _ _ _ _ _ x _ hd rfl (am_m1 x) hn h
theorem tr_istore_n_1 {X : Nat × (Nat → Int32)} {d : Nat} {k : am_K} {Q : Option Value → am_M → Prop} {pc : Nat} {L S : List Value} {μ : am_M} {l0 l1 : Value} {x : Int32} (hd : decode k.2.1 pc = .ok (.istore_n 1, 1)) (hn : 1 < k.2.2.1) (hcat : l0.category = 1) (h : tw X d k Q (pc + 1) (l0 :: .int x :: L) S μ) : tw X d k Q pc (l0 :: l1 :: L) (.int x :: S) μ := by
  have e : am_st1 (l0 :: l1 :: L) 1 (.int x) = l0 :: .int x :: L := by simp only [am_st1, am_cl_id hcat]
  rw [← e] at h
  exact w_istore_n _ _ _ _ _ _ hd hn h
theorem tr_istore_n_1L {X : Nat × (Nat → Int32)} {d : Nat} {k : am_K} {Q : Option Value → am_M → Prop} {pc : Nat} {L S : List Value} {μ : am_M} {l1 : Value} {z : Int64} {x : Int32} (hd : decode k.2.1 pc = .ok (.istore_n 1, 1)) (hn : 1 < k.2.2.1) (h : tw X d k Q (pc + 1) (.float 0 :: .int x :: L) S μ) : tw X d k Q pc (.long z :: l1 :: L) (.int x :: S) μ := by
  have e : am_st1 (.long z :: l1 :: L) 1 (.int x) = .float 0 :: .int x :: L := by simp only [am_st1, am_cl]
  rw [← e] at h
  exact w_istore_n _ _ _ _ _ _ hd hn h
theorem tr_astore_n_1 {X : Nat × (Nat → Int32)} {d : Nat} {k : am_K} {Q : Option Value → am_M → Prop} {pc : Nat} {L S : List Value} {μ : am_M} {l0 l1 : Value} {x : Nat} (hd : decode k.2.1 pc = .ok (.astore_n 1, 1)) (hn : 1 < k.2.2.1) (hcat : l0.category = 1) (h : tw X d k Q (pc + 1) (l0 :: .ref x :: L) S μ) : tw X d k Q pc (l0 :: l1 :: L) (.ref x :: S) μ := by
  have e : am_st1 (l0 :: l1 :: L) 1 (.ref x) = l0 :: .ref x :: L := by simp only [am_st1, am_cl_id hcat]
  rw [← e] at h
  exact w_astore_n _ _ _ _ _ _ hd hn h
theorem tr_astore_n_1L {X : Nat × (Nat → Int32)} {d : Nat} {k : am_K} {Q : Option Value → am_M → Prop} {pc : Nat} {L S : List Value} {μ : am_M} {l1 : Value} {z : Int64} {x : Nat} (hd : decode k.2.1 pc = .ok (.astore_n 1, 1)) (hn : 1 < k.2.2.1) (h : tw X d k Q (pc + 1) (.float 0 :: .ref x :: L) S μ) : tw X d k Q pc (.long z :: l1 :: L) (.ref x :: S) μ := by
  have e : am_st1 (.long z :: l1 :: L) 1 (.ref x) = .float 0 :: .ref x :: L := by simp only [am_st1, am_cl]
  rw [← e] at h
  exact w_astore_n _ _ _ _ _ _ hd hn h
theorem tr_lstore_n_1 {X : Nat × (Nat → Int32)} {d : Nat} {k : am_K} {Q : Option Value → am_M → Prop} {pc : Nat} {L S : List Value} {μ : am_M} {l0 l1 m1 : Value} {x : Int64} (hd : decode k.2.1 pc = .ok (.lstore_n 1, 1)) (hn : 1 + 1 < k.2.2.1) (hcat : l0.category = 1) (h : tw X d k Q (pc + 1) (l0 :: .long x :: .float 0 :: L) S μ) : tw X d k Q pc (l0 :: l1 :: m1 :: L) (.long x :: S) μ := by
  have e : am_st2 (l0 :: l1 :: m1 :: L) 1 (.long x) = l0 :: .long x :: .float 0 :: L := by simp only [am_st2, am_cl_id hcat]
  rw [← e] at h
  exact w_lstore_n _ _ _ _ _ _ hd hn h
theorem tr_lstore_n_1L {X : Nat × (Nat → Int32)} {d : Nat} {k : am_K} {Q : Option Value → am_M → Prop} {pc : Nat} {L S : List Value} {μ : am_M} {l1 m1 : Value} {z : Int64} {x : Int64} (hd : decode k.2.1 pc = .ok (.lstore_n 1, 1)) (hn : 1 + 1 < k.2.2.1) (h : tw X d k Q (pc + 1) (.float 0 :: .long x :: .float 0 :: L) S μ) : tw X d k Q pc (.long z :: l1 :: m1 :: L) (.long x :: S) μ := by
  have e : am_st2 (.long z :: l1 :: m1 :: L) 1 (.long x) = .float 0 :: .long x :: .float 0 :: L := by simp only [am_st2, am_cl]
  rw [← e] at h
  exact w_lstore_n _ _ _ _ _ _ hd hn h
theorem tr_iinc_1 {X : Nat × (Nat → Int32)} {d : Nat} {k : am_K} {Q : Option Value → am_M → Prop} {pc : Nat} {L S : List Value} {μ : am_M} {l0 : Value} {x : Int32} (hd : decode k.2.1 pc = .ok (.iinc 1 1, 3)) (hn : 1 < k.2.2.1) (hcat : l0.category = 1) (h : tw X d k Q (pc + 3) (l0 :: .int (x + 1) :: L) S μ) : tw X d k Q pc (l0 :: .int x :: L) S μ := by
  have e : am_st1 (l0 :: .int x :: L) 1 (.int (x + 1)) = l0 :: .int (x + 1) :: L := by simp only [am_st1, am_cl_id hcat]
  rw [← e] at h
  exact w_iinc _ _ _ _ _ _ x _ hd rfl rfl hn h
theorem tr_iincm_1 {X : Nat × (Nat → Int32)} {d : Nat} {k : am_K} {Q : Option Value → am_M → Prop} {pc : Nat} {L S : List Value} {μ : am_M} {l0 : Value} {x : Int32} (hd : decode k.2.1 pc = .ok (.iinc 1 (-1), 3)) (hn : 1 < k.2.2.1) (hcat : l0.category = 1) (h : tw X d k Q (pc + 3) (l0 :: .int (x - 1) :: L) S μ) : tw X d k Q pc (l0 :: .int x :: L) S μ := by
  have e : am_st1 (l0 :: .int x :: L) 1 (.int (x - 1)) = l0 :: .int (x - 1) :: L := by simp only [am_st1, am_cl_id hcat]
  rw [← e] at h
  exact w_iinc _ _ _ _ _ _ x _ hd rfl (am_m1 x) hn h
theorem tr_istore_n_2 {X : Nat × (Nat → Int32)} {d : Nat} {k : am_K} {Q : Option Value → am_M → Prop} {pc : Nat} {L S : List Value} {μ : am_M} {l0 l1 l2 : Value} {x : Int32} (hd : decode k.2.1 pc = .ok (.istore_n 2, 1)) (hn : 2 < k.2.2.1) (hcat : l1.category = 1) (h : tw X d k Q (pc + 1) (l0 :: l1 :: .int x :: L) S μ) : tw X d k Q pc (l0 :: l1 :: l2 :: L) (.int x :: S) μ := by
  have e : am_st1 (l0 :: l1 :: l2 :: L) 2 (.int x) = l0 :: l1 :: .int x :: L := by simp only [am_st1, am_cl_id hcat]
  rw [← e] at h
  exact w_istore_n _ _ _ _ _ _ hd hn h
theorem tr_istore_n_2L {X : Nat × (Nat → Int32)} {d : Nat} {k : am_K} {Q : Option Value → am_M → Prop} {pc : Nat} {L S : List Value} {μ : am_M} {l0 l2 : Value} {z : Int64} {x : Int32} (hd : decode k.2.1 pc = .ok (.istore_n 2, 1)) (hn : 2 < k.2.2.1) (h : tw X d k Q (pc + 1) (l0 :: .float 0 :: .int x :: L) S μ) : tw X d k Q pc (l0 :: .long z :: l2 :: L) (.int x :: S) μ := by
  have e : am_st1 (l0 :: .long z :: l2 :: L) 2 (.int x) = l0 :: .float 0 :: .int x :: L := by simp only [am_st1, am_cl]
  rw [← e] at h
  exact w_istore_n _ _ _ _ _ _ hd hn h
theorem tr_astore_n_2 {X : Nat × (Nat → Int32)} {d : Nat} {k : am_K} {Q : Option Value → am_M → Prop} {pc : Nat} {L S : List Value} {μ : am_M} {l0 l1 l2 : Value} {x : Nat} (hd : decode k.2.1 pc = .ok (.astore_n 2, 1)) (hn : 2 < k.2.2.1) (hcat : l1.category = 1) (h : tw X d k Q (pc + 1) (l0 :: l1 :: .ref x :: L) S μ) : tw X d k Q pc (l0 :: l1 :: l2 :: L) (.ref x :: S) μ := by
  have e : am_st1 (l0 :: l1 :: l2 :: L) 2 (.ref x) = l0 :: l1 :: .ref x :: L := by simp only [am_st1, am_cl_id hcat]
  rw [← e] at h
  exact w_astore_n _ _ _ _ _ _ hd hn h
theorem tr_astore_n_2L {X : Nat × (Nat → Int32)} {d : Nat} {k : am_K} {Q : Option Value → am_M → Prop} {pc : Nat} {L S : List Value} {μ : am_M} {l0 l2 : Value} {z : Int64} {x : Nat} (hd : decode k.2.1 pc = .ok (.astore_n 2, 1)) (hn : 2 < k.2.2.1) (h : tw X d k Q (pc + 1) (l0 :: .float 0 :: .ref x :: L) S μ) : tw X d k Q pc (l0 :: .long z :: l2 :: L) (.ref x :: S) μ := by
  have e : am_st1 (l0 :: .long z :: l2 :: L) 2 (.ref x) = l0 :: .float 0 :: .ref x :: L := by simp only [am_st1, am_cl]
  rw [← e] at h
  exact w_astore_n _ _ _ _ _ _ hd hn h
theorem tr_lstore_n_2 {X : Nat × (Nat → Int32)} {d : Nat} {k : am_K} {Q : Option Value → am_M → Prop} {pc : Nat} {L S : List Value} {μ : am_M} {l0 l1 l2 m1 : Value} {x : Int64} (hd : decode k.2.1 pc = .ok (.lstore_n 2, 1)) (hn : 2 + 1 < k.2.2.1) (hcat : l1.category = 1) (h : tw X d k Q (pc + 1) (l0 :: l1 :: .long x :: .float 0 :: L) S μ) : tw X d k Q pc (l0 :: l1 :: l2 :: m1 :: L) (.long x :: S) μ := by
  have e : am_st2 (l0 :: l1 :: l2 :: m1 :: L) 2 (.long x) = l0 :: l1 :: .long x :: .float 0 :: L := by simp only [am_st2, am_cl_id hcat]
  rw [← e] at h
  exact w_lstore_n _ _ _ _ _ _ hd hn h
theorem tr_lstore_n_2L {X : Nat × (Nat → Int32)} {d : Nat} {k : am_K} {Q : Option Value → am_M → Prop} {pc : Nat} {L S : List Value} {μ : am_M} {l0 l2 m1 : Value} {z : Int64} {x : Int64} (hd : decode k.2.1 pc = .ok (.lstore_n 2, 1)) (hn : 2 + 1 < k.2.2.1) (h : tw X d k Q (pc + 1) (l0 :: .float 0 :: .long x :: .float 0 :: L) S μ) : tw X d k Q pc (l0 :: .long z :: l2 :: m1 :: L) (.long x :: S) μ := by
  have e : am_st2 (l0 :: .long z :: l2 :: m1 :: L) 2 (.long x) = l0 :: .float 0 :: .long x :: .float 0 :: L := by simp only [am_st2, am_cl]
  rw [← e] at h
  exact w_lstore_n _ _ _ _ _ _ hd hn h
theorem tr_iinc_2 {X : Nat × (Nat → Int32)} {d : Nat} {k : am_K} {Q : Option Value → am_M → Prop} {pc : Nat} {L S : List Value} {μ : am_M} {l0 l1 : Value} {x : Int32} (hd : decode k.2.1 pc = .ok (.iinc 2 1, 3)) (hn : 2 < k.2.2.1) (hcat : l1.category = 1) (h : tw X d k Q (pc + 3) (l0 :: l1 :: .int (x + 1) :: L) S μ) : tw X d k Q pc (l0 :: l1 :: .int x :: L) S μ := by
  have e : am_st1 (l0 :: l1 :: .int x :: L) 2 (.int (x + 1)) = l0 :: l1 :: .int (x + 1) :: L := by simp only [am_st1, am_cl_id hcat]
  rw [← e] at h
  exact w_iinc _ _ _ _ _ _ x _ hd rfl rfl hn h
theorem tr_iincm_2 {X : Nat × (Nat → Int32)} {d : Nat} {k : am_K} {Q : Option Value → am_M → Prop} {pc : Nat} {L S : List Value} {μ : am_M} {l0 l1 : Value} {x : Int32} (hd : decode k.2.1 pc = .ok (.iinc 2 (-1), 3)) (hn : 2 < k.2.2.1) (hcat : l1.category = 1) (h : tw X d k Q (pc + 3) (l0 :: l1 :: .int (x - 1) :: L) S μ) : tw X d k Q pc (l0 :: l1 :: .int x :: L) S μ := by
  have e : am_st1 (l0 :: l1 :: .int x :: L) 2 (.int (x - 1)) = l0 :: l1 :: .int (x - 1) :: L := by simp only [am_st1, am_cl_id hcat]
  rw [← e] at h
  exact w_iinc _ _ _ _ _ _ x _ hd rfl (am_m1 x) hn h
theorem tr_istore_n_3 {X : Nat × (Nat → Int32)} {d : Nat} {k : am_K} {Q : Option Value → am_M → Prop} {pc : Nat} {L S : List Value} {μ : am_M} {l0 l1 l2 l3 : Value} {x : Int32} (hd : decode k.2.1 pc = .ok (.istore_n 3, 1)) (hn : 3 < k.2.2.1) (hcat : l2.category = 1) (h : tw X d k Q (pc + 1) (l0 :: l1 :: l2 :: .int x :: L) S μ) : tw X d k Q pc (l0 :: l1 :: l2 :: l3 :: L) (.int x :: S) μ := by
  have e : am_st1 (l0 :: l1 :: l2 :: l3 :: L) 3 (.int x) = l0 :: l1 :: l2 :: .int x :: L := by simp only [am_st1, am_cl_id hcat]
  rw [← e] at h
  exact w_istore_n _ _ _ _ _ _ hd hn h
theorem tr_istore_n_3L {X : Nat × (Nat → Int32)} {d : Nat} {k : am_K} {Q : Option Value → am_M → Prop} {pc : Nat} {L S : List Value} {μ : am_M} {l0 l1 l3 : Value} {z : Int64} {x : Int32} (hd : decode k.2.1 pc = .ok (.istore_n 3, 1)) (hn : 3 < k.2.2.1) (h : tw X d k Q (pc + 1) (l0 :: l1 :: .float 0 :: .int x :: L) S μ) : tw X d k Q pc (l0 :: l1 :: .long z :: l3 :: L) (.int x :: S) μ := by
  have e : am_st1 (l0 :: l1 :: .long z :: l3 :: L) 3 (.int x) = l0 :: l1 :: .float 0 :: .int x :: L := by simp only [am_st1, am_cl]
  rw [← e] at h
  exact w_istore_n _ _ _ _ _ _ hd hn h
theorem tr_astore_n_3 {X : Nat × (Nat → Int32)} {d : Nat} {k : am_K} {Q : Option Value → am_M → Prop} {pc : Nat} {L S : List Value} {μ : am_M} {l0 l1 l2 l3 : Value} {x : Nat} (hd : decode k.2.1 pc = .ok (.astore_n 3, 1)) (hn : 3 < k.2.2.1) (hcat : l2.category = 1) (h : tw X d k Q (pc + 1) (l0 :: l1 :: l2 :: .ref x :: L) S μ) : tw X d k Q pc (l0 :: l1 :: l2 :: l3 :: L) (.ref x :: S) μ := by
  have e : am_st1 (l0 :: l1 :: l2 :: l3 :: L) 3 (.ref x) = l0 :: l1 :: l2 :: .ref x :: L := by simp only [am_st1, am_cl_id hcat]
  rw [← e] at h
  exact w_astore_n _ _ _ _ _ _ hd hn h
theorem tr_astore_n_3L {X : Nat × (Nat → Int32)} {d : Nat} {k : am_K} {Q : Option Value → am_M → Prop} {pc : Nat} {L S : List Value} {μ : am_M} {l0 l1 l3 : Value} {z : Int64} {x : Nat} (hd : decode k.2.1 pc = .ok (.astore_n 3, 1)) (hn : 3 < k.2.2.1) (h : tw X d k Q (pc + 1) (l0 :: l1 :: .float 0 :: .ref x :: L) S μ) : tw X d k Q pc (l0 :: l1 :: .long z :: l3 :: L) (.ref x :: S) μ := by
  have e : am_st1 (l0 :: l1 :: .long z :: l3 :: L) 3 (.ref x) = l0 :: l1 :: .float 0 :: .ref x :: L := by simp only [am_st1, am_cl]
  rw [← e] at h
  exact w_astore_n _ _ _ _ _ _ hd hn h
theorem tr_lstore_n_3 {X : Nat × (Nat → Int32)} {d : Nat} {k : am_K} {Q : Option Value → am_M → Prop} {pc : Nat} {L S : List Value} {μ : am_M} {l0 l1 l2 l3 m1 : Value} {x : Int64} (hd : decode k.2.1 pc = .ok (.lstore_n 3, 1)) (hn : 3 + 1 < k.2.2.1) (hcat : l2.category = 1) (h : tw X d k Q (pc + 1) (l0 :: l1 :: l2 :: .long x :: .float 0 :: L) S μ) : tw X d k Q pc (l0 :: l1 :: l2 :: l3 :: m1 :: L) (.long x :: S) μ := by
  have e : am_st2 (l0 :: l1 :: l2 :: l3 :: m1 :: L) 3 (.long x) = l0 :: l1 :: l2 :: .long x :: .float 0 :: L := by simp only [am_st2, am_cl_id hcat]
  rw [← e] at h
  exact w_lstore_n _ _ _ _ _ _ hd hn h
theorem tr_lstore_n_3L {X : Nat × (Nat → Int32)} {d : Nat} {k : am_K} {Q : Option Value → am_M → Prop} {pc : Nat} {L S : List Value} {μ : am_M} {l0 l1 l3 m1 : Value} {z : Int64} {x : Int64} (hd : decode k.2.1 pc = .ok (.lstore_n 3, 1)) (hn : 3 + 1 < k.2.2.1) (h : tw X d k Q (pc + 1) (l0 :: l1 :: .float 0 :: .long x :: .float 0 :: L) S μ) : tw X d k Q pc (l0 :: l1 :: .long z :: l3 :: m1 :: L) (.long x :: S) μ := by
  have e : am_st2 (l0 :: l1 :: .long z :: l3 :: m1 :: L) 3 (.long x) = l0 :: l1 :: .float 0 :: .long x :: .float 0 :: L := by simp only [am_st2, am_cl]
  rw [← e] at h
  exact w_lstore_n _ _ _ _ _ _ hd hn h
theorem tr_iinc_3 {X : Nat × (Nat → Int32)} {d : Nat} {k : am_K} {Q : Option Value → am_M → Prop} {pc : Nat} {L S : List Value} {μ : am_M} {l0 l1 l2 : Value} {x : Int32} (hd : decode k.2.1 pc = .ok (.iinc 3 1, 3)) (hn : 3 < k.2.2.1) (hcat : l2.category = 1) (h : tw X d k Q (pc + 3) (l0 :: l1 :: l2 :: .int (x + 1) :: L) S μ) : tw X d k Q pc (l0 :: l1 :: l2 :: .int x :: L) S μ := by
  have e : am_st1 (l0 :: l1 :: l2 :: .int x :: L) 3 (.int (x + 1)) = l0 :: l1 :: l2 :: .int (x + 1) :: L := by simp only [am_st1, am_cl_id hcat]
  rw [← e] at h
  exact w_iinc _ _ _ _ _ _ x _ hd rfl rfl hn h
theorem tr_iincm_3 {X : Nat × (Nat → Int32)} {d : Nat} {k : am_K} {Q : Option Value → am_M → Prop} {pc : Nat} {L S : List Value} {μ : am_M} {l0 l1 l2 : Value} {x : Int32} (hd : decode k.2.1 pc = .ok (.iinc 3 (-1), 3)) (hn : 3 < k.2.2.1) (hcat : l2.category = 1) (h : tw X d k Q (pc + 3) (l0 :: l1 :: l2 :: .int (x - 1) :: L) S μ) : tw X d k Q pc (l0 :: l1 :: l2 :: .int x :: L) S μ := by
  have e : am_st1 (l0 :: l1 :: l2 :: .int x :: L) 3 (.int (x - 1)) = l0 :: l1 :: l2 :: .int (x - 1) :: L := by simp only [am_st1, am_cl_id hcat]
  rw [← e] at h
  exact w_iinc _ _ _ _ _ _ x _ hd rfl (am_m1 x) hn h
theorem tr_istore_4 {X : Nat × (Nat → Int32)} {d : Nat} {k : am_K} {Q : Option Value → am_M → Prop} {pc : Nat} {L S : List Value} {μ : am_M} {l0 l1 l2 l3 l4 : Value} {x : Int32} (hd : decode k.2.1 pc = .ok (.istore 4, 2)) (hn : 4 < k.2.2.1) (hcat : l3.category = 1) (h : tw X d k Q (pc + 2) (l0 :: l1 :: l2 :: l3 :: .int x :: L) S μ) : tw X d k Q pc (l0 :: l1 :: l2 :: l3 :: l4 :: L) (.int x :: S) μ := by
  have e : am_st1 (l0 :: l1 :: l2 :: l3 :: l4 :: L) 4 (.int x) = l0 :: l1 :: l2 :: l3 :: .int x :: L := by simp only [am_st1, am_cl_id hcat]
  rw [← e] at h
  exact w_istore _ _ _ _ _ _ hd hn h
theorem tr_istore_4L {X : Nat × (Nat → Int32)} {d : Nat} {k : am_K} {Q : Option Value → am_M → Prop} {pc : Nat} {L S : List Value} {μ : am_M} {l0 l1 l2 l4 : Value} {z : Int64} {x : Int32} (hd : decode k.2.1 pc = .ok (.istore 4, 2)) (hn : 4 < k.2.2.1) (h : tw X d k Q (pc + 2) (l0 :: l1 :: l2 :: .float 0 :: .int x :: L) S μ) : tw X d k Q pc (l0 :: l1 :: l2 :: .long z :: l4 :: L) (.int x :: S) μ := by
  have e : am_st1 (l0 :: l1 :: l2 :: .long z :: l4 :: L) 4 (.int x) = l0 :: l1 :: l2 :: .float 0 :: .int x :: L := by simp only [am_st1, am_cl]
  rw [← e] at h
  exact w_istore _ _ _ _ _ _ hd hn h
theorem tr_astore_4 {X : Nat × (Nat → Int32)} {d : Nat} {k : am_K} {Q : Option Value → am_M → Prop} {pc : Nat} {L S : List Value} {μ : am_M} {l0 l1 l2 l3 l4 : Value} {x : Nat} (hd : decode k.2.1 pc = .ok (.astore 4, 2)) (hn : 4 < k.2.2.1) (hcat : l3.category = 1) (h : tw X d k Q (pc + 2) (l0 :: l1 :: l2 :: l3 :: .ref x :: L) S μ) : tw X d k Q pc (l0 :: l1 :: l2 :: l3 :: l4 :: L) (.ref x :: S) μ := by
  have e : am_st1 (l0 :: l1 :: l2 :: l3 :: l4 :: L) 4 (.ref x) = l0 :: l1 :: l2 :: l3 :: .ref x :: L := by simp only [am_st1, am_cl_id hcat]
  rw [← e] at h
  exact w_astore _ _ _ _ _ _ hd hn h
theorem tr_astore_4L {X : Nat × (Nat → Int32)} {d : Nat} {k : am_K} {Q : Option Value → am_M → Prop} {pc : Nat} {L S : List Value} {μ : am_M} {l0 l1 l2 l4 : Value} {z : Int64} {x : Nat} (hd : decode k.2.1 pc = .ok (.astore 4, 2)) (hn : 4 < k.2.2.1) (h : tw X d k Q (pc + 2) (l0 :: l1 :: l2 :: .float 0 :: .ref x :: L) S μ) : tw X d k Q pc (l0 :: l1 :: l2 :: .long z :: l4 :: L) (.ref x :: S) μ := by
  have e : am_st1 (l0 :: l1 :: l2 :: .long z :: l4 :: L) 4 (.ref x) = l0 :: l1 :: l2 :: .float 0 :: .ref x :: L := by simp only [am_st1, am_cl]
  rw [← e] at h
  exact w_astore _ _ _ _ _ _ hd hn h
theorem tr_lstore_4 {X : Nat × (Nat → Int32)} {d : Nat} {k : am_K} {Q : Option Value → am_M → Prop} {pc : Nat} {L S : List Value} {μ : am_M} {l0 l1 l2 l3 l4 m1 : Value} {x : Int64} (hd : decode k.2.1 pc = .ok (.lstore 4, 2)) (hn : 4 + 1 < k.2.2.1) (hcat : l3.category = 1) (h : tw X d k Q (pc + 2) (l0 :: l1 :: l2 :: l3 :: .long x :: .float 0 :: L) S μ) : tw X d k Q pc (l0 :: l1 :: l2 :: l3 :: l4 :: m1 :: L) (.long x :: S) μ := by
  have e : am_st2 (l0 :: l1 :: l2 :: l3 :: l4 :: m1 :: L) 4 (.long x) = l0 :: l1 :: l2 :: l3 :: .long x :: .float 0 :: L := by simp only [am_st2, am_cl_id hcat]
  rw [← e] at h
  exact w_lstore _ _ _ _ _ _ hd hn h
theorem tr_lstore_4L {X : Nat × (Nat → Int32)} {d : Nat} {k : am_K} {Q : Option Value → am_M → Prop} {pc : Nat} {L S : List Value} {μ : am_M} {l0 l1 l2 l4 m1 : Value} {z : Int64} {x : Int64} (hd : decode k.2.1 pc = .ok (.lstore 4, 2)) (hn : 4 + 1 < k.2.2.1) (h : tw X d k Q (pc + 2) (l0 :: l1 :: l2 :: .float 0 :: .long x :: .float 0 :: L) S μ) : tw X d k Q pc (l0 :: l1 :: l2 :: .long z :: l4 :: m1 :: L) (.long x :: S) μ := by
  have e : am_st2 (l0 :: l1 :: l2 :: .long z :: l4 :: m1 :: L) 4 (.long x) = l0 :: l1 :: l2 :: .float 0 :: .long x :: .float 0 :: L := by simp only [am_st2, am_cl]
  rw [← e] at h
  exact w_lstore _ _ _ _ _ _ hd hn h
theorem tr_iinc_4 {X : Nat × (Nat → Int32)} {d : Nat} {k : am_K} {Q : Option Value → am_M → Prop} {pc : Nat} {L S : List Value} {μ : am_M} {l0 l1 l2 l3 : Value} {x : Int32} (hd : decode k.2.1 pc = .ok (.iinc 4 1, 3)) (hn : 4 < k.2.2.1) (hcat : l3.category = 1) (h : tw X d k Q (pc + 3) (l0 :: l1 :: l2 :: l3 :: .int (x + 1) :: L) S μ) : tw X d k Q pc (l0 :: l1 :: l2 :: l3 :: .int x :: L) S μ := by
  have e : am_st1 (l0 :: l1 :: l2 :: l3 :: .int x :: L) 4 (.int (x + 1)) = l0 :: l1 :: l2 :: l3 :: .int (x + 1) :: L := by simp only [am_st1, am_cl_id hcat]
  rw [← e] at h
  exact w_iinc _ _ _ _ _ _ x _ hd rfl rfl hn h
theorem tr_iincm_4 {X : Nat × (Nat → Int32)} {d : Nat} {k : am_K} {Q : Option Value → am_M → Prop} {pc : Nat} {L S : List Value} {μ : am_M} {l0 l1 l2 l3 : Value} {x : Int32} (hd : decode k.2.1 pc = .ok (.iinc 4 (-1), 3)) (hn : 4 < k.2.2.1) (hcat : l3.category = 1) (h : tw X d k Q (pc + 3) (l0 :: l1 :: l2 :: l3 :: .int (x - 1) :: L) S μ) : tw X d k Q pc (l0 :: l1 :: l2 :: l3 :: .int x :: L) S μ := by
  have e : am_st1 (l0 :: l1 :: l2 :: l3 :: .int x :: L) 4 (.int (x - 1)) = l0 :: l1 :: l2 :: l3 :: .int (x - 1) :: L := by simp only [am_st1, am_cl_id hcat]
  rw [← e] at h
  exact w_iinc _ _ _ _ _ _ x _ hd rfl (am_m1 x) hn h
theorem tr_istore_5 {X : Nat × (Nat → Int32)} {d : Nat} {k : am_K} {Q : Option Value → am_M → Prop} {pc : Nat} {L S : List Value} {μ : am_M} {l0 l1 l2 l3 l4 l5 : Value} {x : Int32} (hd : decode k.2.1 pc = .ok (.istore 5, 2)) (hn : 5 < k.2.2.1) (hcat : l4.category = 1) (h : tw X d k Q (pc + 2) (l0 :: l1 :: l2 :: l3 :: l4 :: .int x :: L) S μ) : tw X d k Q pc (l0 :: l1 :: l2 :: l3 :: l4 :: l5 :: L) (.int x :: S) μ := by
  have e : am_st1 (l0 :: l1 :: l2 :: l3 :: l4 :: l5 :: L) 5 (.int x) = l0 :: l1 :: l2 :: l3 :: l4 :: .int x :: L := by simp only [am_st1, am_cl_id hcat]
  rw [← e] at h
  exact w_istore _ _ _ _ _ _ hd hn h
theorem tr_istore_5L {X : Nat × (Nat → Int32)} {d : Nat} {k : am_K} {Q : Option Value → am_M → Prop} {pc : Nat} {L S : List Value} {μ : am_M} {l0 l1 l2 l3 l5 : Value} {z : Int64} {x : Int32} (hd : decode k.2.1 pc = .ok (.istore 5, 2)) (hn : 5 < k.2.2.1) (h : tw X d k Q (pc + 2) (l0 :: l1 :: l2 :: l3 :: .float 0 :: .int x :: L) S μ) : tw X d k Q pc (l0 :: l1 :: l2 :: l3 :: .long z :: l5 :: L) (.int x :: S) μ := by
  have e : am_st1 (l0 :: l1 :: l2 :: l3 :: .long z :: l5 :: L) 5 (.int x) = l0 :: l1 :: l2 :: l3 :: .float 0 :: .int x :: L := by simp only [am_st1, am_cl]
  rw [← e] at h
  exact w_istore _ _ _ _ _ _ hd hn h
theorem tr_astore_5 {X : Nat × (Nat → Int32)} {d : Nat} {k : am_K} {Q : Option Value → am_M → Prop} {pc : Nat} {L S : List Value} {μ : am_M} {l0 l1 l2 l3 l4 l5 : Value} {x : Nat} (hd : decode k.2.1 pc = .ok (.astore 5, 2)) (hn : 5 < k.2.2.1) (hcat : l4.category = 1) (h : tw X d k Q (pc + 2) (l0 :: l1 :: l2 :: l3 :: l4 :: .ref x :: L) S μ) : tw X d k Q pc (l0 :: l1 :: l2 :: l3 :: l4 :: l5 :: L) (.ref x :: S) μ := by
  have e : am_st1 (l0 :: l1 :: l2 :: l3 :: l4 :: l5 :: L) 5 (.ref x) = l0 :: l1 :: l2 :: l3 :: l4 :: .ref x :: L := by simp only [am_st1, am_cl_id hcat]
  rw [← e] at h
  exact w_astore _ _ _ _ _ _ hd hn h
theorem tr_astore_5L {X : Nat × (Nat → Int32)} {d : Nat} {k : am_K} {Q : Option Value → am_M → Prop} {pc : Nat} {L S : List Value} {μ : am_M} {l0 l1 l2 l3 l5 : Value} {z : Int64} {x : Nat} (hd : decode k.2.1 pc = .ok (.astore 5, 2)) (hn : 5 < k.2.2.1) (h : tw X d k Q (pc + 2) (l0 :: l1 :: l2 :: l3 :: .float 0 :: .ref x :: L) S μ) : tw X d k Q pc (l0 :: l1 :: l2 :: l3 :: .long z :: l5 :: L) (.ref x :: S) μ := by
  have e : am_st1 (l0 :: l1 :: l2 :: l3 :: .long z :: l5 :: L) 5 (.ref x) = l0 :: l1 :: l2 :: l3 :: .float 0 :: .ref x :: L := by simp only [am_st1, am_cl]
  rw [← e] at h
  exact w_astore _ _ _ _ _ _ hd hn h
theorem tr_lstore_5 {X : Nat × (Nat → Int32)} {d : Nat} {k : am_K} {Q : Option Value → am_M → Prop} {pc : Nat} {L S : List Value} {μ : am_M} {l0 l1 l2 l3 l4 l5 m1 : Value} {x : Int64} (hd : decode k.2.1 pc = .ok (.lstore 5, 2)) (hn : 5 + 1 < k.2.2.1) (hcat : l4.category = 1) (h : tw X d k Q (pc + 2) (l0 :: l1 :: l2 :: l3 :: l4 :: .long x :: .float 0 :: L) S μ) : tw X d k Q pc (l0 :: l1 :: l2 :: l3 :: l4 :: l5 :: m1 :: L) (.long x :: S) μ := by
  have e : am_st2 (l0 :: l1 :: l2 :: l3 :: l4 :: l5 :: m1 :: L) 5 (.long x) = l0 :: l1 :: l2 :: l3 :: l4 :: .long x :: .float 0 :: L := by simp only [am_st2, am_cl_id hcat]
  rw [← e] at h
  exact w_lstore _ _ _ _ _ _ hd hn h
theorem tr_lstore_5L {X : Nat × (Nat → Int32)} {d : Nat} {k : am_K} {Q : Option Value → am_M → Prop} {pc : Nat} {L S : List Value} {μ : am_M} {l0 l1 l2 l3 l5 m1 : Value} {z : Int64} {x : Int64} (hd : decode k.2.1 pc = .ok (.lstore 5, 2)) (hn : 5 + 1 < k.2.2.1) (h : tw X d k Q (pc + 2) (l0 :: l1 :: l2 :: l3 :: .float 0 :: .long x :: .float 0 :: L) S μ) : tw X d k Q pc (l0 :: l1 :: l2 :: l3 :: .long z :: l5 :: m1 :: L) (.long x :: S) μ := by
  have e : am_st2 (l0 :: l1 :: l2 :: l3 :: .long z :: l5 :: m1 :: L) 5 (.long x) = l0 :: l1 :: l2 :: l3 :: .float 0 :: .long x :: .float 0 :: L := by simp only [am_st2, am_cl]
  rw [← e] at h
  exact w_lstore _ _ _ _ _ _ hd hn h
theorem tr_iinc_5 {X : Nat × (Nat → Int32)} {d : Nat} {k : am_K} {Q : Option Value → am_M → Prop} {pc : Nat} {L S : List Value} {μ : am_M} {l0 l1 l2 l3 l4 : Value} {x : Int32} (hd : decode k.2.1 pc = .ok (.iinc 5 1, 3)) (hn : 5 < k.2.2.1) (hcat : l4.category = 1) (h : tw X d k Q (pc + 3) (l0 :: l1 :: l2 :: l3 :: l4 :: .int (x + 1) :: L) S μ) : tw X d k Q pc (l0 :: l1 :: l2 :: l3 :: l4 :: .int x :: L) S μ := by
  have e : am_st1 (l0 :: l1 :: l2 :: l3 :: l4 :: .int x :: L) 5 (.int (x + 1)) = l0 :: l1 :: l2 :: l3 :: l4 :: .int (x + 1) :: L := by simp only [am_st1, am_cl_id hcat]
  rw [← e] at h
  exact w_iinc _ _ _ _ _ _ x _ hd rfl rfl hn h
theorem tr_iincm_5 {X : Nat × (Nat → Int32)} {d : Nat} {k : am_K} {Q : Option Value → am_M → Prop} {pc : Nat} {L S : List Value} {μ : am_M} {l0 l1 l2 l3 l4 : Value} {x : Int32} (hd : decode k.2.1 pc = .ok (.iinc 5 (-1), 3)) (hn : 5 < k.2.2.1) (hcat : l4.category = 1) (h : tw X d k Q (pc + 3) (l0 :: l1 :: l2 :: l3 :: l4 :: .int (x - 1) :: L) S μ) : tw X d k Q pc (l0 :: l1 :: l2 :: l3 :: l4 :: .int x :: L) S μ := by
  have e : am_st1 (l0 :: l1 :: l2 :: l3 :: l4 :: .int x :: L) 5 (.int (x - 1)) = l0 :: l1 :: l2 :: l3 :: l4 :: .int (x - 1) :: L := by simp only [am_st1, am_cl_id hcat]
  rw [← e] at h
  exact w_iinc _ _ _ _ _ _ x _ hd rfl (am_m1 x) hn h
theorem tr_istore_6 {X : Nat × (Nat → Int32)} {d : Nat} {k : am_K} {Q : Option Value → am_M → Prop} {pc : Nat} {L S : List Value} {μ : am_M} {l0 l1 l2 l3 l4 l5 l6 : Value} {x : Int32} (hd : decode k.2.1 pc = .ok (.istore 6, 2)) (hn : 6 < k.2.2.1) (hcat : l5.category = 1) (h : tw X d k Q (pc + 2) (l0 :: l1 :: l2 :: l3 :: l4 :: l5 :: .int x :: L) S μ) : tw X d k Q pc (l0 :: l1 :: l2 :: l3 :: l4 :: l5 :: l6 :: L) (.int x :: S) μ := by
  have e : am_st1 (l0 :: l1 :: l2 :: l3 :: l4 :: l5 :: l6 :: L) 6 (.int x) = l0 :: l1 :: l2 :: l3 :: l4 :: l5 :: .int x :: L := by simp only [am_st1, am_cl_id hcat]
  rw [← e] at h
  exact w_istore _ _ _ _ _ _ hd hn h
theorem tr_istore_6L {X : Nat × (Nat → Int32)} {d : Nat} {k : am_K} {Q : Option Value → am_M → Prop} {pc : Nat} {L S : List Value} {μ : am_M} {l0 l1 l2 l3 l4 l6 : Value} {z : Int64} {x : Int32} (hd : decode k.2.1 pc = .ok (.istore 6, 2)) (hn : 6 < k.2.2.1) (h : tw X d k Q (pc + 2) (l0 :: l1 :: l2 :: l3 :: l4 :: .float 0 :: .int x :: L) S μ) : tw X d k Q pc (l0 :: l1 :: l2 :: l3 :: l4 :: .long z :: l6 :: L) (.int x :: S) μ := by
  have e : am_st1 (l0 :: l1 :: l2 :: l3 :: l4 :: .long z :: l6 :: L) 6 (.int x) = l0 :: l1 :: l2 :: l3 :: l4 :: .float 0 :: .int x :: L := by simp only [am_st1, am_cl]
  rw [← e] at h
  exact w_istore _ _ _ _ _ _ hd hn h
theorem tr_astore_6 {X : Nat × (Nat → Int32)} {d : Nat} {k : am_K} {Q : Option Value → am_M → Prop} {pc : Nat} {L S : List Value} {μ : am_M} {l0 l1 l2 l3 l4 l5 l6 : Value} {x : Nat} (hd : decode k.2.1 pc = .ok (.astore 6, 2)) (hn : 6 < k.2.2.1) (hcat : l5.category = 1) (h : tw X d k Q (pc + 2) (l0 :: l1 :: l2 :: l3 :: l4 :: l5 :: .ref x :: L) S μ) : tw X d k Q pc (l0 :: l1 :: l2 :: l3 :: l4 :: l5 :: l6 :: L) (.ref x :: S) μ := by
  have e : am_st1 (l0 :: l1 :: l2 :: l3 :: l4 :: l5 :: l6 :: L) 6 (.ref x) = l0 :: l1 :: l2 :: l3 :: l4 :: l5 :: .ref x :: L := by simp only [am_st1, am_cl_id hcat]
  rw [← e] at h
  exact w_astore _ _ _ _ _ _ hd hn h
theorem tr_astore_6L {X : Nat × (Nat → Int32)} {d : Nat} {k : am_K} {Q : Option Value → am_M → Prop} {pc : Nat} {L S : List Value} {μ : am_M} {l0 l1 l2 l3 l4 l6 : Value} {z : Int64} {x : Nat} (hd : decode k.2.1 pc = .ok (.astore 6, 2)) (hn : 6 < k.2.2.1) (h : tw X d k Q (pc + 2) (l0 :: l1 :: l2 :: l3 :: l4 :: .float 0 :: .ref x :: L) S μ) : tw X d k Q pc (l0 :: l1 :: l2 :: l3 :: l4 :: .long z :: l6 :: L) (.ref x :: S) μ := by
  have e : am_st1 (l0 :: l1 :: l2 :: l3 :: l4 :: .long z :: l6 :: L) 6 (.ref x) = l0 :: l1 :: l2 :: l3 :: l4 :: .float 0 :: .ref x :: L := by simp only [am_st1, am_cl]
  rw [← e] at h
  exact w_astore _ _ _ _ _ _ hd hn h
theorem tr_lstore_6 {X : Nat × (Nat → Int32)} {d : Nat} {k : am_K} {Q : Option Value → am_M → Prop} {pc : Nat} {L S : List Value} {μ : am_M} {l0 l1 l2 l3 l4 l5 l6 m1 : Value} {x : Int64} (hd : decode k.2.1 pc = .ok (.lstore 6, 2)) (hn : 6 + 1 < k.2.2.1) (hcat : l5.category = 1) (h : tw X d k Q (pc + 2) (l0 :: l1 :: l2 :: l3 :: l4 :: l5 :: .long x :: .float 0 :: L) S μ) : tw X d k Q pc (l0 :: l1 :: l2 :: l3 :: l4 :: l5 :: l6 :: m1 :: L) (.long x :: S) μ := by
  have e : am_st2 (l0 :: l1 :: l2 :: l3 :: l4 :: l5 :: l6 :: m1 :: L) 6 (.long x) = l0 :: l1 :: l2 :: l3 :: l4 :: l5 :: .long x :: .float 0 :: L := by simp only [am_st2, am_cl_id hcat]
  rw [← e] at h
  exact w_lstore _ _ _ _ _ _ hd hn h
theorem tr_lstore_6L {X : Nat × (Nat → Int32)} {d : Nat} {k : am_K} {Q : Option Value → am_M → Prop} {pc : Nat} {L S : List Value} {μ : am_M} {l0 l1 l2 l3 l4 l6 m1 : Value} {z : Int64} {x : Int64} (hd : decode k.2.1 pc = .ok (.lstore 6, 2)) (hn : 6 + 1 < k.2.2.1) (h : tw X d k Q (pc + 2) (l0 :: l1 :: l2 :: l3 :: l4 :: .float 0 :: .long x :: .float 0 :: L) S μ) : tw X d k Q pc (l0 :: l1 :: l2 :: l3 :: l4 :: .long z :: l6 :: m1 :: L) (.long x :: S) μ := by
  have e : am_st2 (l0 :: l1 :: l2 :: l3 :: l4 :: .long z :: l6 :: m1 :: L) 6 (.long x) = l0 :: l1 :: l2 :: l3 :: l4 :: .float 0 :: .long x :: .float 0 :: L := by simp only [am_st2, am_cl]
  rw [← e] at h
  exact w_lstore _ _ _ _ _ _ hd hn h
theorem tr_iinc_6 {X : Nat × (Nat → Int32)} {d : Nat} {k : am_K} {Q : Option Value → am_M → Prop} {pc : Nat} {L S : List Value} {μ : am_M} {l0 l1 l2 l3 l4 l5 : Value} {x : Int32} (hd : decode k.2.1 pc = .ok (.iinc 6 1, 3)) (hn : 6 < k.2.2.1) (hcat : l5.category = 1) (h : tw X d k Q (pc + 3) (l0 :: l1 :: l2 :: l3 :: l4 :: l5 :: .int (x + 1) :: L) S μ) : tw X d k Q pc (l0 :: l1 :: l2 :: l3 :: l4 :: l5 :: .int x :: L) S μ := by
  have e : am_st1 (l0 :: l1 :: l2 :: l3 :: l4 :: l5 :: .int x :: L) 6 (.int (x + 1)) = l0 :: l1 :: l2 :: l3 :: l4 :: l5 :: .int (x + 1) :: L := by simp only [am_st1, am_cl_id hcat]
  rw [← e] at h
  exact w_iinc _ _ _ _ _ _ x _ hd rfl rfl hn h
theorem tr_iincm_6 {X : Nat × (Nat → Int32)} {d : Nat} {k : am_K} {Q : Option Value → am_M → Prop} {pc : Nat} {L S : List Value} {μ : am_M} {l0 l1 l2 l3 l4 l5 : Value} {x : Int32} (hd : decode k.2.1 pc = .ok (.iinc 6 (-1), 3)) (hn : 6 < k.2.2.1) (hcat : l5.category = 1) (h : tw X d k Q (pc + 3) (l0 :: l1 :: l2 :: l3 :: l4 :: l5 :: .int (x - 1) :: L) S μ) : tw X d k Q pc (l0 :: l1 :: l2 :: l3 :: l4 :: l5 :: .int x :: L) S μ := by
  have e : am_st1 (l0 :: l1 :: l2 :: l3 :: l4 :: l5 :: .int x :: L) 6 (.int (x - 1)) = l0 :: l1 :: l2 :: l3 :: l4 :: l5 :: .int (x - 1) :: L := by simp only [am_st1, am_cl_id hcat]
  rw [← e] at h
  exact w_iinc _ _ _ _ _ _ x _ hd rfl (am_m1 x) hn h
theorem tr_istore_7 {X : Nat × (Nat → Int32)} {d : Nat} {k : am_K} {Q : Option Value → am_M → Prop} {pc : Nat} {L S : List Value} {μ : am_M} {l0 l1 l2 l3 l4 l5 l6 l7 : Value} {x : Int32} (hd : decode k.2.1 pc = .ok (.istore 7, 2)) (hn : 7 < k.2.2.1) (hcat : l6.category = 1) (h : tw X d k Q (pc + 2) (l0 :: l1 :: l2 :: l3 :: l4 :: l5 :: l6 :: .int x :: L) S μ) : tw X d k Q pc (l0 :: l1 :: l2 :: l3 :: l4 :: l5 :: l6 :: l7 :: L) (.int x :: S) μ := by
  have e : am_st1 (l0 :: l1 :: l2 :: l3 :: l4 :: l5 :: l6 :: l7 :: L) 7 (.int x) = l0 :: l1 :: l2 :: l3 :: l4 :: l5 :: l6 :: .int x :: L := by simp only [am_st1, am_cl_id hcat]
  rw [← e] at h
  exact w_istore _ _ _ _ _ _ hd hn h
theorem tr_istore_7L {X : Nat × (Nat → Int32)} {d : Nat} {k : am_K} {Q : Option Value → am_M → Prop} {pc : Nat} {L S : List Value} {μ : am_M} {l0 l1 l2 l3 l4 l5 l7 : Value} {z : Int64} {x : Int32} (hd : decode k.2.1 pc = .ok (.istore 7, 2)) (hn : 7 < k.2.2.1) (h : tw X d k Q (pc + 2) (l0 :: l1 :: l2 :: l3 :: l4 :: l5 :: .float 0 :: .int x :: L) S μ) : tw X d k Q pc (l0 :: l1 :: l2 :: l3 :: l4 :: l5 :: .long z :: l7 :: L) (.int x :: S) μ := by
  have e : am_st1 (l0 :: l1 :: l2 :: l3 :: l4 :: l5 :: .long z :: l7 :: L) 7 (.int x) = l0 :: l1 :: l2 :: l3 :: l4 :: l5 :: .float 0 :: .int x :: L := by simp only [am_st1, am_cl]
  rw [← e] at h
  exact w_istore _ _ _ _ _ _ hd hn h
theorem tr_astore_7 {X : Nat × (Nat → Int32)} {d : Nat} {k : am_K} {Q : Option Value → am_M → Prop} {pc : Nat} {L S : List Value} {μ : am_M} {l0 l1 l2 l3 l4 l5 l6 l7 : Value} {x : Nat} (hd : decode k.2.1 pc = .ok (.astore 7, 2)) (hn : 7 < k.2.2.1) (hcat : l6.category = 1) (h : tw X d k Q (pc + 2) (l0 :: l1 :: l2 :: l3 :: l4 :: l5 :: l6 :: .ref x :: L) S μ) : tw X d k Q pc (l0 :: l1 :: l2 :: l3 :: l4 :: l5 :: l6 :: l7 :: L) (.ref x :: S) μ := by
  have e : am_st1 (l0 :: l1 :: l2 :: l3 :: l4 :: l5 :: l6 :: l7 :: L) 7 (.ref x) = l0 :: l1 :: l2 :: l3 :: l4 :: l5 :: l6 :: .ref x :: L := by simp only [am_st1, am_cl_id hcat]
  rw [← e] at h
  exact w_astore _ _ _ _ _ _ hd hn h
theorem tr_astore_7L {X : Nat × (Nat → Int32)} {d : Nat} {k : am_K} {Q : Option Value → am_M → Prop} {pc : Nat} {L S : List Value} {μ : am_M} {l0 l1 l2 l3 l4 l5 l7 : Value} {z : Int64} {x : Nat} (hd : decode k.2.1 pc = .ok (.astore 7, 2)) (hn : 7 < k.2.2.1) (h : tw X d k Q (pc + 2) (l0 :: l1 :: l2 :: l3 :: l4 :: l5 :: .float 0 :: .ref x :: L) S μ) : tw X d k Q pc (l0 :: l1 :: l2 :: l3 :: l4 :: l5 :: .long z :: l7 :: L) (.ref x :: S) μ := by
  have e : am_st1 (l0 :: l1 :: l2 :: l3 :: l4 :: l5 :: .long z :: l7 :: L) 7 (.ref x) = l0 :: l1 :: l2 :: l3 :: l4 :: l5 :: .float 0 :: .ref x :: L := by simp only [am_st1, am_cl]
  rw [← e] at h
  exact w_astore _ _ _ _ _ _ hd hn h
theorem tr_lstore_7 {X : Nat × (Nat → Int32)} {d : Nat} {k : am_K} {Q : Option Value → am_M → Prop} {pc : Nat} {L S : List Value} {μ : am_M} {l0 l1 l2 l3 l4 l5 l6 l7 m1 : Value} {x : Int64} (hd : decode k.2.1 pc = .ok (.lstore 7, 2)) (hn : 7 + 1 < k.2.2.1) (hcat : l6.category = 1) (h : tw X d k Q (pc + 2) (l0 :: l1 :: l2 :: l3 :: l4 :: l5 :: l6 :: .long x :: .float 0 :: L) S μ) : tw X d k Q pc (l0 :: l1 :: l2 :: l3 :: l4 :: l5 :: l6 :: l7 :: m1 :: L) (.long x :: S) μ := by
  have e : am_st2 (l0 :: l1 :: l2 :: l3 :: l4 :: l5 :: l6 :: l7 :: m1 :: L) 7 (.long x) = l0 :: l1 :: l2 :: l3 :: l4 :: l5 :: l6 :: .long x :: .float 0 :: L := by simp only [am_st2, am_cl_id hcat]
  rw [← e] at h
  exact w_lstore _ _ _ _ _ _ hd hn h
theorem tr_lstore_7L {X : Nat × (Nat → Int32)} {d : Nat} {k : am_K} {Q : Option Value → am_M → Prop} {pc : Nat} {L S : List Value} {μ : am_M} {l0 l1 l2 l3 l4 l5 l7 m1 : Value} {z : Int64} {x : Int64} (hd : decode k.2.1 pc = .ok (.lstore 7, 2)) (hn : 7 + 1 < k.2.2.1) (h : tw X d k Q (pc + 2) (l0 :: l1 :: l2 :: l3 :: l4 :: l5 :: .float 0 :: .long x :: .float 0 :: L) S μ) : tw X d k Q pc (l0 :: l1 :: l2 :: l3 :: l4 :: l5 :: .long z :: l7 :: m1 :: L) (.long x :: S) μ := by
  have e : am_st2 (l0 :: l1 :: l2 :: l3 :: l4 :: l5 :: .long z :: l7 :: m1 :: L) 7 (.long x) = l0 :: l1 :: l2 :: l3 :: l4 :: l5 :: .float 0 :: .long x :: .float 0 :: L := by simp only [am_st2, am_cl]
  rw [← e] at h
  exact w_lstore _ _ _ _ _ _ hd hn h
theorem tr_iinc_7 {X : Nat × (Nat → Int32)} {d : Nat} {k : am_K} {Q : Option Value → am_M → Prop} {pc : Nat} {L S : List Value} {μ : am_M} {l0 l1 l2 l3 l4 l5 l6 : Value} {x : Int32} (hd : decode k.2.1 pc = .ok (.iinc 7 1, 3)) (hn : 7 < k.2.2.1) (hcat : l6.category = 1) (h : tw X d k Q (pc + 3) (l0 :: l1 :: l2 :: l3 :: l4 :: l5 :: l6 :: .int (x + 1) :: L) S μ) : tw X d k Q pc (l0 :: l1 :: l2 :: l3 :: l4 :: l5 :: l6 :: .int x :: L) S μ := by
  have e : am_st1 (l0 :: l1 :: l2 :: l3 :: l4 :: l5 :: l6 :: .int x :: L) 7 (.int (x + 1)) = l0 :: l1 :: l2 :: l3 :: l4 :: l5 :: l6 :: .int (x + 1) :: L := by simp only [am_st1, am_cl_id hcat]
  rw [← e] at h
  exact w_iinc _ _ _ _ _ _ x _ hd rfl rfl hn h
theorem tr_iincm_7 {X : Nat × (Nat → Int32)} {d : Nat} {k : am_K} {Q : Option Value → am_M → Prop} {pc : Nat} {L S : List Value} {μ : am_M} {l0 l1 l2 l3 l4 l5 l6 : Value} {x : Int32} (hd : decode k.2.1 pc = .ok (.iinc 7 (-1), 3)) (hn : 7 < k.2.2.1) (hcat : l6.category = 1) (h : tw X d k Q (pc + 3) (l0 :: l1 :: l2 :: l3 :: l4 :: l5 :: l6 :: .int (x - 1) :: L) S μ) : tw X d k Q pc (l0 :: l1 :: l2 :: l3 :: l4 :: l5 :: l6 :: .int x :: L) S μ := by
  have e : am_st1 (l0 :: l1 :: l2 :: l3 :: l4 :: l5 :: l6 :: .int x :: L) 7 (.int (x - 1)) = l0 :: l1 :: l2 :: l3 :: l4 :: l5 :: l6 :: .int (x - 1) :: L := by simp only [am_st1, am_cl_id hcat]
  rw [← e] at h
  exact w_iinc _ _ _ _ _ _ x _ hd rfl (am_m1 x) hn h
theorem tr_istore_8 {X : Nat × (Nat → Int32)} {d : Nat} {k : am_K} {Q : Option Value → am_M → Prop} {pc : Nat} {L S : List Value} {μ : am_M} {l0 l1 l2 l3 l4 l5 l6 l7 l8 : Value} {x : Int32} (hd : decode k.2.1 pc = .ok (.istore 8, 2)) (hn : 8 < k.2.2.1) (hcat : l7.category = 1) (h : tw X d k Q (pc + 2) (l0 :: l1 :: l2 :: l3 :: l4 :: l5 :: l6 :: l7 :: .int x :: L) S μ) : tw X d k Q pc (l0 :: l1 :: l2 :: l3 :: l4 :: l5 :: l6 :: l7 :: l8 :: L) (.int x :: S) μ := by
  have e : am_st1 (l0 :: l1 :: l2 :: l3 :: l4 :: l5 :: l6 :: l7 :: l8 :: L) 8 (.int x) = l0 :: l1 :: l2 :: l3 :: l4 :: l5 :: l6 :: l7 :: .int x :: L := by simp only [am_st1, am_cl_id hcat]
  rw [← e] at h
  exact w_istore _ _ _ _ _ _ hd hn h
theorem tr_istore_8L {X : Nat × (Nat → Int32)} {d : Nat} {k : am_K} {Q : Option Value → am_M → Prop} {pc : Nat} {L S : List Value} {μ : am_M} {l0 l1 l2 l3 l4 l5 l6 l8 : Value} {z : Int64} {x : Int32} (hd : decode k.2.1 pc = .ok (.istore 8, 2)) (hn : 8 < k.2.2.1) (h : tw X d k Q (pc + 2) (l0 :: l1 :: l2 :: l3 :: l4 :: l5 :: l6 :: .float 0 :: .int x :: L) S μ) : tw X d k Q pc (l0 :: l1 :: l2 :: l3 :: l4 :: l5 :: l6 :: .long z :: l8 :: L) (.int x :: S) μ := by
  have e : am_st1 (l0 :: l1 :: l2 :: l3 :: l4 :: l5 :: l6 :: .long z :: l8 :: L) 8 (.int x) = l0 :: l1 :: l2 :: l3 :: l4 :: l5 :: l6 :: .float 0 :: .int x :: L := by simp only [am_st1, am_cl]
  rw [← e] at h
  exact w_istore _ _ _ _ _ _ hd hn h
theorem tr_astore_8 {X : Nat × (Nat → Int32)} {d : Nat} {k : am_K} {Q : Option Value → am_M → Prop} {pc : Nat} {L S : List Value} {μ : am_M} {l0 l1 l2 l3 l4 l5 l6 l7 l8 : Value} {x : Nat} (hd : decode k.2.1 pc = .ok (.astore 8, 2)) (hn : 8 < k.2.2.1) (hcat : l7.category = 1) (h : tw X d k Q (pc + 2) (l0 :: l1 :: l2 :: l3 :: l4 :: l5 :: l6 :: l7 :: .ref x :: L) S μ) : tw X d k Q pc (l0 :: l1 :: l2 :: l3 :: l4 :: l5 :: l6 :: l7 :: l8 :: L) (.ref x :: S) μ := by
  have e : am_st1 (l0 :: l1 :: l2 :: l3 :: l4 :: l5 :: l6 :: l7 :: l8 :: L) 8 (.ref x) = l0 :: l1 :: l2 :: l3 :: l4 :: l5 :: l6 :: l7 :: .ref x :: L := by simp only [am_st1, am_cl_id hcat]
  rw [← e] at h
  exact w_astore _ _ _ _ _ _ hd hn h
theorem tr_astore_8L {X : Nat × (Nat → Int32)} {d : Nat} {k : am_K} {Q : Option Value → am_M → Prop} {pc : Nat} {L S : List Value} {μ : am_M} {l0 l1 l2 l3 l4 l5 l6 l8 : Value} {z : Int64} {x : Nat} (hd : decode k.2.1 pc = .ok (.astore 8, 2)) (hn : 8 < k.2.2.1) (h : tw X d k Q (pc + 2) (l0 :: l1 :: l2 :: l3 :: l4 :: l5 :: l6 :: .float 0 :: .ref x :: L) S μ) : tw X d k Q pc (l0 :: l1 :: l2 :: l3 :: l4 :: l5 :: l6 :: .long z :: l8 :: L) (.ref x :: S) μ := by
  have e : am_st1 (l0 :: l1 :: l2 :: l3 :: l4 :: l5 :: l6 :: .long z :: l8 :: L) 8 (.ref x) = l0 :: l1 :: l2 :: l3 :: l4 :: l5 :: l6 :: .float 0 :: .ref x :: L := by simp only [am_st1, am_cl]
  rw [← e] at h
  exact w_astore _ _ _ _ _ _ hd hn h
theorem tr_lstore_8 {X : Nat × (Nat → Int32)} {d : Nat} {k : am_K} {Q : Option Value → am_M → Prop} {pc : Nat} {L S : List Value} {μ : am_M} {l0 l1 l2 l3 l4 l5 l6 l7 l8 m1 : Value} {x : Int64} (hd : decode k.2.1 pc = .ok (.lstore 8, 2)) (hn : 8 + 1 < k.2.2.1) (hcat : l7.category = 1) (h : tw X d k Q (pc + 2) (l0 :: l1 :: l2 :: l3 :: l4 :: l5 :: l6 :: l7 :: .long x :: .float 0 :: L) S μ) : tw X d k Q pc (l0 :: l1 :: l2 :: l3 :: l4 :: l5 :: l6 :: l7 :: l8 :: m1 :: L) (.long x :: S) μ := by
  have e : am_st2 (l0 :: l1 :: l2 :: l3 :: l4 :: l5 :: l6 :: l7 :: l8 :: m1 :: L) 8 (.long x) = l0 :: l1 :: l2 :: l3 :: l4 :: l5 :: l6 :: l7 :: .long x :: .float 0 :: L := by simp only [am_st2, am_cl_id hcat]
  rw [← e] at h
  exact w_lstore _ _ _ _ _ _ hd hn h
theorem tr_lstore_8L {X : Nat × (Nat → Int32)} {d : Nat} {k : am_K} {Q : Option Value → am_M → Prop} {pc : Nat} {L S : List Value} {μ : am_M} {l0 l1 l2 l3 l4 l5 l6 l8 m1 : Value} {z : Int64} {x : Int64} (hd : decode k.2.1 pc = .ok (.lstore 8, 2)) (hn : 8 + 1 < k.2.2.1) (h : tw X d k Q (pc + 2) (l0 :: l1 :: l2 :: l3 :: l4 :: l5 :: l6 :: .float 0 :: .long x :: .float 0 :: L) S μ) : tw X d k Q pc (l0 :: l1 :: l2 :: l3 :: l4 :: l5 :: l6 :: .long z :: l8 :: m1 :: L) (.long x :: S) μ := by
  have e : am_st2 (l0 :: l1 :: l2 :: l3 :: l4 :: l5 :: l6 :: .long z :: l8 :: m1 :: L) 8 (.long x) = l0 :: l1 :: l2 :: l3 :: l4 :: l5 :: l6 :: .float 0 :: .long x :: .float 0 :: L := by simp only [am_st2, am_cl]
  rw [← e] at h
  exact w_lstore _ _ _ _ _ _ hd hn h
theorem tr_iinc_8 {X : Nat × (Nat → Int32)} {d : Nat} {k : am_K} {Q : Option Value → am_M → Prop} {pc : Nat} {L S : List Value} {μ : am_M} {l0 l1 l2 l3 l4 l5 l6 l7 : Value} {x : Int32} (hd : decode k.2.1 pc = .ok (.iinc 8 1, 3)) (hn : 8 < k.2.2.1) (hcat : l7.category = 1) (h : tw X d k Q (pc + 3) (l0 :: l1 :: l2 :: l3 :: l4 :: l5 :: l6 :: l7 :: .int (x + 1) :: L) S μ) : tw X d k Q pc (l0 :: l1 :: l2 :: l3 :: l4 :: l5 :: l6 :: l7 :: .int x :: L) S μ := by
  have e : am_st1 (l0 :: l1 :: l2 :: l3 :: l4 :: l5 :: l6 :: l7 :: .int x :: L) 8 (.int (x + 1)) = l0 :: l1 :: l2 :: l3 :: l4 :: l5 :: l6 :: l7 :: .int (x + 1) :: L := by simp only [am_st1, am_cl_id hcat]
  rw [← e] at h
  exact w_iinc _ _ _ _ _ _ x _ hd rfl rfl hn h
theorem tr_iincm_8 {X : Nat × (Nat → Int32)} {d : Nat} {k : am_K} {Q : Option Value → am_M → Prop} {pc : Nat} {L S : List Value} {μ : am_M} {l0 l1 l2 l3 l4 l5 l6 l7 : Value} {x : Int32} (hd : decode k.2.1 pc = .ok (.iinc 8 (-1), 3)) (hn : 8 < k.2.2.1) (hcat : l7.category = 1) (h : tw X d k Q (pc + 3) (l0 :: l1 :: l2 :: l3 :: l4 :: l5 :: l6 :: l7 :: .int (x - 1) :: L) S μ) : tw X d k Q pc (l0 :: l1 :: l2 :: l3 :: l4 :: l5 :: l6 :: l7 :: .int x :: L) S μ := by
  have e : am_st1 (l0 :: l1 :: l2 :: l3 :: l4 :: l5 :: l6 :: l7 :: .int x :: L) 8 (.int (x - 1)) = l0 :: l1 :: l2 :: l3 :: l4 :: l5 :: l6 :: l7 :: .int (x - 1) :: L := by simp only [am_st1, am_cl_id hcat]
  rw [← e] at h
  exact w_iinc _ _ _ _ _ _ x _ hd rfl (am_m1 x) hn h
theorem tr_istore_9 {X : Nat × (Nat → Int32)} {d : Nat} {k : am_K} {Q : Option Value → am_M → Prop} {pc : Nat} {L S : List Value} {μ : am_M} {l0 l1 l2 l3 l4 l5 l6 l7 l8 l9 : Value} {x : Int32} (hd : decode k.2.1 pc = .ok (.istore 9, 2)) (hn : 9 < k.2.2.1) (hcat : l8.category = 1) (h : tw X d k Q (pc + 2) (l0 :: l1 :: l2 :: l3 :: l4 :: l5 :: l6 :: l7 :: l8 :: .int x :: L) S μ) : tw X d k Q pc (l0 :: l1 :: l2 :: l3 :: l4 :: l5 :: l6 :: l7 :: l8 :: l9 :: L) (.int x :: S) μ := by
  have e : am_st1 (l0 :: l1 :: l2 :: l3 :: l4 :: l5 :: l6 :: l7 :: l8 :: l9 :: L) 9 (.int x) = l0 :: l1 :: l2 :: l3 :: l4 :: l5 :: l6 :: l7 :: l8 :: .int x :: L := by simp only [am_st1, am_cl_id hcat]
  rw [← e] at h
  exact w_istore _ _ _ _ _ _ hd hn h
theorem tr_istore_9L {X : Nat × (Nat → Int32)} {d : Nat} {k : am_K} {Q : Option Value → am_M → Prop} {pc : Nat} {L S : List Value} {μ : am_M} {l0 l1 l2 l3 l4 l5 l6 l7 l9 : Value} {z : Int64} {x : Int32} (hd : decode k.2.1 pc = .ok (.istore 9, 2)) (hn : 9 < k.2.2.1) (h : tw X d k Q (pc + 2) (l0 :: l1 :: l2 :: l3 :: l4 :: l5 :: l6 :: l7 :: .float 0 :: .int x :: L) S μ) : tw X d k Q pc (l0 :: l1 :: l2 :: l3 :: l4 :: l5 :: l6 :: l7 :: .long z :: l9 :: L) (.int x :: S) μ := by
  have e : am_st1 (l0 :: l1 :: l2 :: l3 :: l4 :: l5 :: l6 :: l7 :: .long z :: l9 :: L) 9 (.int x) = l0 :: l1 :: l2 :: l3 :: l4 :: l5 :: l6 :: l7 :: .float 0 :: .int x :: L := by simp only [am_st1, am_cl]
  rw [← e] at h
  exact w_istore _ _ _ _ _ _ hd hn h
theorem tr_astore_9 {X : Nat × (Nat → Int32)} {d : Nat} {k : am_K} {Q : Option Value → am_M → Prop} {pc : Nat} {L S : List Value} {μ : am_M} {l0 l1 l2 l3 l4 l5 l6 l7 l8 l9 : Value} {x : Nat} (hd : decode k.2.1 pc = .ok (.astore 9, 2)) (hn : 9 < k.2.2.1) (hcat : l8.category = 1) (h : tw X d k Q (pc + 2) (l0 :: l1 :: l2 :: l3 :: l4 :: l5 :: l6 :: l7 :: l8 :: .ref x :: L) S μ) : tw X d k Q pc (l0 :: l1 :: l2 :: l3 :: l4 :: l5 :: l6 :: l7 :: l8 :: l9 :: L) (.ref x :: S) μ := by
  have e : am_st1 (l0 :: l1 :: l2 :: l3 :: l4 :: l5 :: l6 :: l7 :: l8 :: l9 :: L) 9 (.ref x) = l0 :: l1 :: l2 :: l3 :: l4 :: l5 :: l6 :: l7 :: l8 :: .ref x :: L := by simp only [am_st1, am_cl_id hcat]
  rw [← e] at h
  exact w_astore _ _ _ _ _ _ hd hn h
theorem tr_astore_9L {X : Nat × (Nat → Int32)} {d : Nat} {k : am_K} {Q : Option Value → am_M → Prop} {pc : Nat} {L S : List Value} {μ : am_M} {l0 l1 l2 l3 l4 l5 l6 l7 l9 : Value} {z : Int64} {x : Nat} (hd : decode k.2.1 pc = .ok (.astore 9, 2)) (hn : 9 < k.2.2.1) (h : tw X d k Q (pc + 2) (l0 :: l1 :: l2 :: l3 :: l4 :: l5 :: l6 :: l7 :: .float 0 :: .ref x :: L) S μ) : tw X d k Q pc (l0 :: l1 :: l2 :: l3 :: l4 :: l5 :: l6 :: l7 :: .long z :: l9 :: L) (.ref x :: S) μ := by
  have e : am_st1 (l0 :: l1 :: l2 :: l3 :: l4 :: l5 :: l6 :: l7 :: .long z :: l9 :: L) 9 (.ref x) = l0 :: l1 :: l2 :: l3 :: l4 :: l5 :: l6 :: l7 :: .float 0 :: .ref x :: L := by simp only [am_st1, am_cl]
  rw [← e] at h
  exact w_astore _ _ _ _ _ _ hd hn h
theorem tr_lstore_9 {X : Nat × (Nat → Int32)} {d : Nat} {k : am_K} {Q : Option Value → am_M → Prop} {pc : Nat} {L S : List Value} {μ : am_M} {l0 l1 l2 l3 l4 l5 l6 l7 l8 l9 m1 : Value} {x : Int64} (hd : decode k.2.1 pc = .ok (.lstore 9, 2)) (hn : 9 + 1 < k.2.2.1) (hcat : l8.category = 1) (h : tw X d k Q (pc + 2) (l0 :: l1 :: l2 :: l3 :: l4 :: l5 :: l6 :: l7 :: l8 :: .long x :: .float 0 :: L) S μ) : tw X d k Q pc (l0 :: l1 :: l2 :: l3 :: l4 :: l5 :: l6 :: l7 :: l8 :: l9 :: m1 :: L) (.long x :: S) μ := by
  have e : am_st2 (l0 :: l1 :: l2 :: l3 :: l4 :: l5 :: l6 :: l7 :: l8 :: l9 :: m1 :: L) 9 (.long x) = l0 :: l1 :: l2 :: l3 :: l4 :: l5 :: l6 :: l7 :: l8 :: .long x :: .float 0 :: L := by simp only [am_st2, am_cl_id hcat]
  rw [← e] at h
  exact w_lstore _ _ _ _ _ _ hd hn h
theorem tr_lstore_9L {X : Nat × (Nat → Int32)} {d : Nat} {k : am_K} {Q : Option Value → am_M → Prop} {pc : Nat} {L S : List Value} {μ : am_M} {l0 l1 l2 l3 l4 l5 l6 l7 l9 m1 : Value} {z : Int64} {x : Int64} (hd : decode k.2.1 pc = .ok (.lstore 9, 2)) (hn : 9 + 1 < k.2.2.1) (h : tw X d k Q (pc + 2) (l0 :: l1 :: l2 :: l3 :: l4 :: l5 :: l6 :: l7 :: .float 0 :: .long x :: .float 0 :: L) S μ) : tw X d k Q pc (l0 :: l1 :: l2 :: l3 :: l4 :: l5 :: l6 :: l7 :: .long z :: l9 :: m1 :: L) (.long x :: S) μ := by
  have e : am_st2 (l0 :: l1 :: l2 :: l3 :: l4 :: l5 :: l6 :: l7 :: .long z :: l9 :: m1 :: L) 9 (.long x) = l0 :: l1 :: l2 :: l3 :: l4 :: l5 :: l6 :: l7 :: .float 0 :: .long x :: .float 0 :: L := by simp only [am_st2, am_cl]
  rw [← e] at h
  exact w_lstore _ _ _ _ _ _ hd hn h
theorem tr_iinc_9 {X : Nat × (Nat → Int32)} {d : Nat} {k : am_K} {Q : Option Value → am_M → Prop} {pc : Nat} {L S : List Value} {μ : am_M} {l0 l1 l2 l3 l4 l5 l6 l7 l8 : Value} {x : Int32} (hd : decode k.2.1 pc = .ok (.iinc 9 1, 3)) (hn : 9 < k.2.2.1) (hcat : l8.category = 1) (h : tw X d k Q (pc + 3) (l0 :: l1 :: l2 :: l3 :: l4 :: l5 :: l6 :: l7 :: l8 :: .int (x + 1) :: L) S μ) : tw X d k Q pc (l0 :: l1 :: l2 :: l3 :: l4 :: l5 :: l6 :: l7 :: l8 :: .int x :: L) S μ := by
  have e : am_st1 (l0 :: l1 :: l2 :: l3 :: l4 :: l5 :: l6 :: l7 :: l8 :: .int x :: L) 9 (.int (x + 1)) = l0 :: l1 :: l2 :: l3 :: l4 :: l5 :: l6 :: l7 :: l8 :: .int (x + 1) :: L := by simp only [am_st1, am_cl_id hcat]
  rw [← e] at h
  exact w_iinc _ _ _ _ _ _ x _ hd rfl rfl hn h
theorem tr_iincm_9 {X : Nat × (Nat → Int32)} {d : Nat} {k : am_K} {Q : Option Value → am_M → Prop} {pc : Nat} {L S : List Value} {μ : am_M} {l0 l1 l2 l3 l4 l5 l6 l7 l8 : Value} {x : Int32} (hd : decode k.2.1 pc = .ok (.iinc 9 (-1), 3)) (hn : 9 < k.2.2.1) (hcat : l8.category = 1) (h : tw X d k Q (pc + 3) (l0 :: l1 :: l2 :: l3 :: l4 :: l5 :: l6 :: l7 :: l8 :: .int (x - 1) :: L) S μ) : tw X d k Q pc (l0 :: l1 :: l2 :: l3 :: l4 :: l5 :: l6 :: l7 :: l8 :: .int x :: L) S μ := by
  have e : am_st1 (l0 :: l1 :: l2 :: l3 :: l4 :: l5 :: l6 :: l7 :: l8 :: .int x :: L) 9 (.int (x - 1)) = l0 :: l1 :: l2 :: l3 :: l4 :: l5 :: l6 :: l7 :: l8 :: .int (x - 1) :: L := by simp only [am_st1, am_cl_id hcat]
  rw [← e] at h
  exact w_iinc _ _ _ _ _ _ x _ hd rfl (am_m1 x) hn h
theorem tr_istore_10 {X : Nat × (Nat → Int32)} {d : Nat} {k : am_K} {Q : Option Value → am_M → Prop} {pc : Nat} {L S : List Value} {μ : am_M} {l0 l1 l2 l3 l4 l5 l6 l7 l8 l9 l10 : Value} {x : Int32} (hd : decode k.2.1 pc = .ok (.istore 10, 2)) (hn : 10 < k.2.2.1) (hcat : l9.category = 1) (h : tw X d k Q (pc + 2) (l0 :: l1 :: l2 :: l3 :: l4 :: l5 :: l6 :: l7 :: l8 :: l9 :: .int x :: L) S μ) : tw X d k Q pc (l0 :: l1 :: l2 :: l3 :: l4 :: l5 :: l6 :: l7 :: l8 :: l9 :: l10 :: L) (.int x :: S) μ := by
  have e : am_st1 (l0 :: l1 :: l2 :: l3 :: l4 :: l5 :: l6 :: l7 :: l8 :: l9 :: l10 :: L) 10 (.int x) = l0 :: l1 :: l2 :: l3 :: l4 :: l5 :: l6 :: l7 :: l8 :: l9 :: .int x :: L := by simp only [am_st1, am_cl_id hcat]
  rw [← e] at h
  exact w_istore _ _ _ _ _ _ hd hn h
theorem tr_istore_10L {X : Nat × (Nat → Int32)} {d : Nat} {k : am_K} {Q : Option Value → am_M → Prop} {pc : Nat} {L S : List Value} {μ : am_M} {l0 l1 l2 l3 l4 l5 l6 l7 l8 l10 : Value} {z : Int64} {x : Int32} (hd : decode k.2.1 pc = .ok (.istore 10, 2)) (hn : 10 < k.2.2.1) (h : tw X d k Q (pc + 2) (l0 :: l1 :: l2 :: l3 :: l4 :: l5 :: l6 :: l7 :: l8 :: .float 0 :: .int x :: L) S μ) : tw X d k Q pc (l0 :: l1 :: l2 :: l3 :: l4 :: l5 :: l6 :: l7 :: l8 :: .long z :: l10 :: L) (.int x :: S) μ := by
  have e : am_st1 (l0 :: l1 :: l2 :: l3 :: l4 :: l5 :: l6 :: l7 :: l8 :: .long z :: l10 :: L) 10 (.int x) = l0 :: l1 :: l2 :: l3 :: l4 :: l5 :: l6 :: l7 :: l8 :: .float 0 :: .int x :: L := by simp only [am_st1, am_cl]
  rw [← e] at h
  exact w_istore _ _ _ _ _ _ hd hn h
theorem tr_astore_10 {X : Nat × (Nat → Int32)} {d : Nat} {k : am_K} {Q : Option Value → am_M → Prop} {pc : Nat} {L S : List Value} {μ : am_M} {l0 l1 l2 l3 l4 l5 l6 l7 l8 l9 l10 : Value} {x : Nat} (hd : decode k.2.1 pc = .ok (.astore 10, 2)) (hn : 10 < k.2.2.1) (hcat : l9.category = 1) (h : tw X d k Q (pc + 2) (l0 :: l1 :: l2 :: l3 :: l4 :: l5 :: l6 :: l7 :: l8 :: l9 :: .ref x :: L) S μ) : tw X d k Q pc (l0 :: l1 :: l2 :: l3 :: l4 :: l5 :: l6 :: l7 :: l8 :: l9 :: l10 :: L) (.ref x :: S) μ := by
  have e : am_st1 (l0 :: l1 :: l2 :: l3 :: l4 :: l5 :: l6 :: l7 :: l8 :: l9 :: l10 :: L) 10 (.ref x) = l0 :: l1 :: l2 :: l3 :: l4 :: l5 :: l6 :: l7 :: l8 :: l9 :: .ref x :: L := by simp only [am_st1, am_cl_id hcat]
  rw [← e] at h
  exact w_astore _ _ _ _ _ _ hd hn h
theorem tr_astore_10L {X : Nat × (Nat → Int32)} {d : Nat} {k : am_K} {Q : Option Value → am_M → Prop} {pc : Nat} {L S : List Value} {μ : am_M} {l0 l1 l2 l3 l4 l5 l6 l7 l8 l10 : Value} {z : Int64} {x : Nat} (hd : decode k.2.1 pc = .ok (.astore 10, 2)) (hn : 10 < k.2.2.1) (h : tw X d k Q (pc + 2) (l0 :: l1 :: l2 :: l3 :: l4 :: l5 :: l6 :: l7 :: l8 :: .float 0 :: .ref x :: L) S μ) : tw X d k Q pc (l0 :: l1 :: l2 :: l3 :: l4 :: l5 :: l6 :: l7 :: l8 :: .long z :: l10 :: L) (.ref x :: S) μ := by
  have e : am_st1 (l0 :: l1 :: l2 :: l3 :: l4 :: l5 :: l6 :: l7 :: l8 :: .long z :: l10 :: L) 10 (.ref x) = l0 :: l1 :: l2 :: l3 :: l4 :: l5 :: l6 :: l7 :: l8 :: .float 0 :: .ref x :: L := by simp only [am_st1, am_cl]
  rw [← e] at h
  exact w_astore _ _ _ _ _ _ hd hn h
theorem tr_lstore_10 {X : Nat × (Nat → Int32)} {d : Nat} {k : am_K} {Q : Option Value → am_M → Prop} {pc : Nat} {L S : List Value} {μ : am_M} {l0 l1 l2 l3 l4 l5 l6 l7 l8 l9 l10 m1 : Value} {x : Int64} (hd : decode k.2.1 pc = .ok (.lstore 10, 2)) (hn : 10 + 1 < k.2.2.1) (hcat : l9.category = 1) (h : tw X d k Q (pc + 2) (l0 :: l1 :: l2 :: l3 :: l4 :: l5 :: l6 :: l7 :: l8 :: l9 :: .long x :: .float 0 :: L) S μ) : tw X d k Q pc (l0 :: l1 :: l2 :: l3 :: l4 :: l5 :: l6 :: l7 :: l8 :: l9 :: l10 :: m1 :: L) (.long x :: S) μ := by
  have e : am_st2 (l0 :: l1 :: l2 :: l3 :: l4 :: l5 :: l6 :: l7 :: l8 :: l9 :: l10 :: m1 :: L) 10 (.long x) = l0 :: l1 :: l2 :: l3 :: l4 :: l5 :: l6 :: l7 :: l8 :: l9 :: .long x :: .float 0 :: L := by simp only [am_st2, am_cl_id hcat]
  rw [← e] at h
  exact w_lstore _ _ _ _ _ _ hd hn h
theorem tr_lstore_10L {X : Nat × (Nat → Int32)} {d : Nat} {k : am_K} {Q : Option Value → am_M → Prop} {pc : Nat} {L S : List Value} {μ : am_M} {l0 l1 l2 l3 l4 l5 l6 l7 l8 l10 m1 : Value} {z : Int64} {x : Int64} (hd : decode k.2.1 pc = .ok (.lstore 10, 2)) (hn : 10 + 1 < k.2.2.1) (h : tw X d k Q (pc + 2) (l0 :: l1 :: l2 :: l3 :: l4 :: l5 :: l6 :: l7 :: l8 :: .float 0 :: .long x :: .float 0 :: L) S μ) : tw X d k Q pc (l0 :: l1 :: l2 :: l3 :: l4 :: l5 :: l6 :: l7 :: l8 :: .long z :: l10 :: m1 :: L) (.long x :: S) μ := by
  have e : am_st2 (l0 :: l1 :: l2 :: l3 :: l4 :: l5 :: l6 :: l7 :: l8 :: .long z :: l10 :: m1 :: L) 10 (.long x) = l0 :: l1 :: l2 :: l3 :: l4 :: l5 :: l6 :: l7 :: l8 :: .float 0 :: .long x :: .float 0 :: L := by simp only [am_st2, am_cl]
  rw [← e] at h
  exact w_lstore _ _ _ _ _ _ hd hn h
theorem tr_iinc_10 {X : Nat × (Nat → Int32)} {d : Nat} {k : am_K} {Q : Option Value → am_M → Prop} {pc : Nat} {L S : List Value} {μ : am_M} {l0 l1 l2 l3 l4 l5 l6 l7 l8 l9 : Value} {x : Int32} (hd : decode k.2.1 pc = .ok (.iinc 10 1, 3)) (hn : 10 < k.2.2.1) (hcat : l9.category = 1) (h : tw X d k Q (pc + 3) (l0 :: l1 :: l2 :: l3 :: l4 :: l5 :: l6 :: l7 :: l8 :: l9 :: .int (x + 1) :: L) S μ) : tw X d k Q pc (l0 :: l1 :: l2 :: l3 :: l4 :: l5 :: l6 :: l7 :: l8 :: l9 :: .int x :: L) S μ := by
  have e : am_st1 (l0 :: l1 :: l2 :: l3 :: l4 :: l5 :: l6 :: l7 :: l8 :: l9 :: .int x :: L) 10 (.int (x + 1)) = l0 :: l1 :: l2 :: l3 :: l4 :: l5 :: l6 :: l7 :: l8 :: l9 :: .int (x + 1) :: L := by simp only [am_st1, am_cl_id hcat]
  rw [← e] at h
  exact w_iinc _ _ _ _ _ _ x _ hd rfl rfl hn h
theorem tr_iincm_10 {X : Nat × (Nat → Int32)} {d : Nat} {k : am_K} {Q : Option Value → am_M → Prop} {pc : Nat} {L S : List Value} {μ : am_M} {l0 l1 l2 l3 l4 l5 l6 l7 l8 l9 : Value} {x : Int32} (hd : decode k.2.1 pc = .ok (.iinc 10 (-1), 3)) (hn : 10 < k.2.2.1) (hcat : l9.category = 1) (h : tw X d k Q (pc + 3) (l0 :: l1 :: l2 :: l3 :: l4 :: l5 :: l6 :: l7 :: l8 :: l9 :: .int (x - 1) :: L) S μ) : tw X d k Q pc (l0 :: l1 :: l2 :: l3 :: l4 :: l5 :: l6 :: l7 :: l8 :: l9 :: .int x :: L) S μ := by
  have e : am_st1 (l0 :: l1 :: l2 :: l3 :: l4 :: l5 :: l6 :: l7 :: l8 :: l9 :: .int x :: L) 10 (.int (x - 1)) = l0 :: l1 :: l2 :: l3 :: l4 :: l5 :: l6 :: l7 :: l8 :: l9 :: .int (x - 1) :: L := by simp only [am_st1, am_cl_id hcat]
  rw [← e] at h
  exact w_iinc _ _ _ _ _ _ x _ hd rfl (am_m1 x) hn h
theorem tr_istore_11 {X : Nat × (Nat → Int32)} {d : Nat} {k : am_K} {Q : Option Value → am_M → Prop} {pc : Nat} {L S : List Value} {μ : am_M} {l0 l1 l2 l3 l4 l5 l6 l7 l8 l9 l10 l11 : Value} {x : Int32} (hd : decode k.2.1 pc = .ok (.istore 11, 2)) (hn : 11 < k.2.2.1) (hcat : l10.category = 1) (h : tw X d k Q (pc + 2) (l0 :: l1 :: l2 :: l3 :: l4 :: l5 :: l6 :: l7 :: l8 :: l9 :: l10 :: .int x :: L) S μ) : tw X d k Q pc (l0 :: l1 :: l2 :: l3 :: l4 :: l5 :: l6 :: l7 :: l8 :: l9 :: l10 :: l11 :: L) (.int x :: S) μ := by
  have e : am_st1 (l0 :: l1 :: l2 :: l3 :: l4 :: l5 :: l6 :: l7 :: l8 :: l9 :: l10 :: l11 :: L) 11 (.int x) = l0 :: l1 :: l2 :: l3 :: l4 :: l5 :: l6 :: l7 :: l8 :: l9 :: l10 :: .int x :: L := by simp only [am_st1, am_cl_id hcat]
  rw [← e] at h
  exact w_istore _ _ _ _ _ _ hd hn h
theorem tr_istore_11L {X : Nat × (Nat → Int32)} {d : Nat} {k : am_K} {Q : Option Value → am_M → Prop} {pc : Nat} {L S : List Value} {μ : am_M} {l0 l1 l2 l3 l4 l5 l6 l7 l8 l9 l11 : Value} {z : Int64} {x : Int32} (hd : decode k.2.1 pc = .ok (.istore 11, 2)) (hn : 11 < k.2.2.1) (h : tw X d k Q (pc + 2) (l0 :: l1 :: l2 :: l3 :: l4 :: l5 :: l6 :: l7 :: l8 :: l9 :: .float 0 :: .int x :: L) S μ) : tw X d k Q pc (l0 :: l1 :: l2 :: l3 :: l4 :: l5 :: l6 :: l7 :: l8 :: l9 :: .long z :: l11 :: L) (.int x :: S) μ := by
  have e : am_st1 (l0 :: l1 :: l2 :: l3 :: l4 :: l5 :: l6 :: l7 :: l8 :: l9 :: .long z :: l11 :: L) 11 (.int x) = l0 :: l1 :: l2 :: l3 :: l4 :: l5 :: l6 :: l7 :: l8 :: l9 :: .float 0 :: .int x :: L := by simp only [am_st1, am_cl]
  rw [← e] at h
  exact w_istore _ _ _ _ _ _ hd hn h
theorem tr_astore_11 {X : Nat × (Nat → Int32)} {d : Nat} {k : am_K} {Q : Option Value → am_M → Prop} {pc : Nat} {L S : List Value} {μ : am_M} {l0 l1 l2 l3 l4 l5 l6 l7 l8 l9 l10 l11 : Value} {x : Nat} (hd : decode k.2.1 pc = .ok (.astore 11, 2)) (hn : 11 < k.2.2.1) (hcat : l10.category = 1) (h : tw X d k Q (pc + 2) (l0 :: l1 :: l2 :: l3 :: l4 :: l5 :: l6 :: l7 :: l8 :: l9 :: l10 :: .ref x :: L) S μ) : tw X d k Q pc (l0 :: l1 :: l2 :: l3 :: l4 :: l5 :: l6 :: l7 :: l8 :: l9 :: l10 :: l11 :: L) (.ref x :: S) μ := by
  have e : am_st1 (l0 :: l1 :: l2 :: l3 :: l4 :: l5 :: l6 :: l7 :: l8 :: l9 :: l10 :: l11 :: L) 11 (.ref x) = l0 :: l1 :: l2 :: l3 :: l4 :: l5 :: l6 :: l7 :: l8 :: l9 :: l10 :: .ref x :: L := by simp only [am_st1, am_cl_id hcat]
  rw [← e] at h
  exact w_astore _ _ _ _ _ _ hd hn h
theorem tr_astore_11L {X : Nat × (Nat → Int32)} {d : Nat} {k : am_K} {Q : Option Value → am_M → Prop} {pc : Nat} {L S : List Value} {μ : am_M} {l0 l1 l2 l3 l4 l5 l6 l7 l8 l9 l11 : Value} {z : Int64} {x : Nat} (hd : decode k.2.1 pc = .ok (.astore 11, 2)) (hn : 11 < k.2.2.1) (h : tw X d k Q (pc + 2) (l0 :: l1 :: l2 :: l3 :: l4 :: l5 :: l6 :: l7 :: l8 :: l9 :: .float 0 :: .ref x :: L) S μ) : tw X d k Q pc (l0 :: l1 :: l2 :: l3 :: l4 :: l5 :: l6 :: l7 :: l8 :: l9 :: .long z :: l11 :: L) (.ref x :: S) μ := by
  have e : am_st1 (l0 :: l1 :: l2 :: l3 :: l4 :: l5 :: l6 :: l7 :: l8 :: l9 :: .long z :: l11 :: L) 11 (.ref x) = l0 :: l1 :: l2 :: l3 :: l4 :: l5 :: l6 :: l7 :: l8 :: l9 :: .float 0 :: .ref x :: L := by simp only [am_st1, am_cl]
  rw [← e] at h
  exact w_astore _ _ _ _ _ _ hd hn h
theorem tr_lstore_11 {X : Nat × (Nat → Int32)} {d : Nat} {k : am_K} {Q : Option Value → am_M → Prop} {pc : Nat} {L S : List Value} {μ : am_M} {l0 l1 l2 l3 l4 l5 l6 l7 l8 l9 l10 l11 m1 : Value} {x : Int64} (hd : decode k.2.1 pc = .ok (.lstore 11, 2)) (hn : 11 + 1 < k.2.2.1) (hcat : l10.category = 1) (h : tw X d k Q (pc + 2) (l0 :: l1 :: l2 :: l3 :: l4 :: l5 :: l6 :: l7 :: l8 :: l9 :: l10 :: .long x :: .float 0 :: L) S μ) : tw X d k Q pc (l0 :: l1 :: l2 :: l3 :: l4 :: l5 :: l6 :: l7 :: l8 :: l9 :: l10 :: l11 :: m1 :: L) (.long x :: S) μ := by
  have e : am_st2 (l0 :: l1 :: l2 :: l3 :: l4 :: l5 :: l6 :: l7 :: l8 :: l9 :: l10 :: l11 :: m1 :: L) 11 (.long x) = l0 :: l1 :: l2 :: l3 :: l4 :: l5 :: l6 :: l7 :: l8 :: l9 :: l10 :: .long x :: .float 0 :: L := by simp only [am_st2, am_cl_id hcat]
  rw [← e] at h
  exact w_lstore _ _ _ _ _ _ hd hn h
theorem tr_lstore_11L {X : Nat × (Nat → Int32)} {d : Nat} {k : am_K} {Q : Option Value → am_M → Prop} {pc : Nat} {L S : List Value} {μ : am_M} {l0 l1 l2 l3 l4 l5 l6 l7 l8 l9 l11 m1 : Value} {z : Int64} {x : Int64} (hd : decode k.2.1 pc = .ok (.lstore 11, 2)) (hn : 11 + 1 < k.2.2.1) (h : tw X d k Q (pc + 2) (l0 :: l1 :: l2 :: l3 :: l4 :: l5 :: l6 :: l7 :: l8 :: l9 :: .float 0 :: .long x :: .float 0 :: L) S μ) : tw X d k Q pc (l0 :: l1 :: l2 :: l3 :: l4 :: l5 :: l6 :: l7 :: l8 :: l9 :: .long z :: l11 :: m1 :: L) (.long x :: S) μ := by
  have e : am_st2 (l0 :: l1 :: l2 :: l3 :: l4 :: l5 :: l6 :: l7 :: l8 :: l9 :: .long z :: l11 :: m1 :: L) 11 (.long x) = l0 :: l1 :: l2 :: l3 :: l4 :: l5 :: l6 :: l7 :: l8 :: l9 :: .float 0 :: .long x :: .float 0 :: L := by simp only [am_st2, am_cl]
  rw [← e] at h
  exact w_lstore _ _ _ _ _ _ hd hn h
theorem tr_iinc_11 {X : Nat × (Nat → Int32)} {d : Nat} {k : am_K} {Q : Option Value → am_M → Prop} {pc : Nat} {L S : List Value} {μ : am_M} {l0 l1 l2 l3 l4 l5 l6 l7 l8 l9 l10 : Value} {x : Int32} (hd : decode k.2.1 pc = .ok (.iinc 11 1, 3)) (hn : 11 < k.2.2.1) (hcat : l10.category = 1) (h : tw X d k Q (pc + 3) (l0 :: l1 :: l2 :: l3 :: l4 :: l5 :: l6 :: l7 :: l8 :: l9 :: l10 :: .int (x + 1) :: L) S μ) : tw X d k Q pc (l0 :: l1 :: l2 :: l3 :: l4 :: l5 :: l6 :: l7 :: l8 :: l9 :: l10 :: .int x :: L) S μ := by
  have e : am_st1 (l0 :: l1 :: l2 :: l3 :: l4 :: l5 :: l6 :: l7 :: l8 :: l9 :: l10 :: .int x :: L) 11 (.int (x + 1)) = l0 :: l1 :: l2 :: l3 :: l4 :: l5 :: l6 :: l7 :: l8 :: l9 :: l10 :: .int (x + 1) :: L := by simp only [am_st1, am_cl_id hcat]
  rw [← e] at h
  exact w_iinc _ _ _ _ _ _ x _ hd rfl rfl hn h
theorem tr_iincm_11 {X : Nat × (Nat → Int32)} {d : Nat} {k : am_K} {Q : Option Value → am_M → Prop} {pc : Nat} {L S : List Value} {μ : am_M} {l0 l1 l2 l3 l4 l5 l6 l7 l8 l9 l10 : Value} {x : Int32} (hd : decode k.2.1 pc = .ok (.iinc 11 (-1), 3)) (hn : 11 < k.2.2.1) (hcat : l10.category = 1) (h : tw X d k Q (pc + 3) (l0 :: l1 :: l2 :: l3 :: l4 :: l5 :: l6 :: l7 :: l8 :: l9 :: l10 :: .int (x - 1) :: L) S μ) : tw X d k Q pc (l0 :: l1 :: l2 :: l3 :: l4 :: l5 :: l6 :: l7 :: l8 :: l9 :: l10 :: .int x :: L) S μ := by
  have e : am_st1 (l0 :: l1 :: l2 :: l3 :: l4 :: l5 :: l6 :: l7 :: l8 :: l9 :: l10 :: .int x :: L) 11 (.int (x - 1)) = l0 :: l1 :: l2 :: l3 :: l4 :: l5 :: l6 :: l7 :: l8 :: l9 :: l10 :: .int (x - 1) :: L := by simp only [am_st1, am_cl_id hcat]
  rw [← e] at h
  exact w_iinc _ _ _ _ _ _ x _ hd rfl (am_m1 x) hn h
theorem tr_istore_12 {X : Nat × (Nat → Int32)} {d : Nat} {k : am_K} {Q : Option Value → am_M → Prop} {pc : Nat} {L S : List Value} {μ : am_M} {l0 l1 l2 l3 l4 l5 l6 l7 l8 l9 l10 l11 l12 : Value} {x : Int32} (hd : decode k.2.1 pc = .ok (.istore 12, 2)) (hn : 12 < k.2.2.1) (hcat : l11.category = 1) (h : tw X d k Q (pc + 2) (l0 :: l1 :: l2 :: l3 :: l4 :: l5 :: l6 :: l7 :: l8 :: l9 :: l10 :: l11 :: .int x :: L) S μ) : tw X d k Q pc (l0 :: l1 :: l2 :: l3 :: l4 :: l5 :: l6 :: l7 :: l8 :: l9 :: l10 :: l11 :: l12 :: L) (.int x :: S) μ := by
  have e : am_st1 (l0 :: l1 :: l2 :: l3 :: l4 :: l5 :: l6 :: l7 :: l8 :: l9 :: l10 :: l11 :: l12 :: L) 12 (.int x) = l0 :: l1 :: l2 :: l3 :: l4 :: l5 :: l6 :: l7 :: l8 :: l9 :: l10 :: l11 :: .int x :: L := by simp only [am_st1, am_cl_id hcat]
  rw [← e] at h
  exact w_istore _ _ _ _ _ _ hd hn h
theorem tr_istore_12L {X : Nat × (Nat → Int32)} {d : Nat} {k : am_K} {Q : Option Value → am_M → Prop} {pc : Nat} {L S : List Value} {μ : am_M} {l0 l1 l2 l3 l4 l5 l6 l7 l8 l9 l10 l12 : Value} {z : Int64} {x : Int32} (hd : decode k.2.1 pc = .ok (.istore 12, 2)) (hn : 12 < k.2.2.1) (h : tw X d k Q (pc + 2) (l0 :: l1 :: l2 :: l3 :: l4 :: l5 :: l6 :: l7 :: l8 :: l9 :: l10 :: .float 0 :: .int x :: L) S μ) : tw X d k Q pc (l0 :: l1 :: l2 :: l3 :: l4 :: l5 :: l6 :: l7 :: l8 :: l9 :: l10 :: .long z :: l12 :: L) (.int x :: S) μ := by
  have e : am_st1 (l0 :: l1 :: l2 :: l3 :: l4 :: l5 :: l6 :: l7 :: l8 :: l9 :: l10 :: .long z :: l12 :: L) 12 (.int x) = l0 :: l1 :: l2 :: l3 :: l4 :: l5 :: l6 :: l7 :: l8 :: l9 :: l10 :: .float 0 :: .int x :: L := by simp only [am_st1, am_cl]
  rw [← e] at h
  exact w_istore _ _ _ _ _ _ hd hn h
theorem tr_astore_12 {X : Nat × (Nat → Int32)} {d : Nat} {k : am_K} {Q : Option Value → am_M → Prop} {pc : Nat} {L S : List Value} {μ : am_M} {l0 l1 l2 l3 l4 l5 l6 l7 l8 l9 l10 l11 l12 : Value} {x : Nat} (hd : decode k.2.1 pc = .ok (.astore 12, 2)) (hn : 12 < k.2.2.1) (hcat : l11.category = 1) (h : tw X d k Q (pc + 2) (l0 :: l1 :: l2 :: l3 :: l4 :: l5 :: l6 :: l7 :: l8 :: l9 :: l10 :: l11 :: .ref x :: L) S μ) : tw X d k Q pc (l0 :: l1 :: l2 :: l3 :: l4 :: l5 :: l6 :: l7 :: l8 :: l9 :: l10 :: l11 :: l12 :: L) (.ref x :: S) μ := by
  have e : am_st1 (l0 :: l1 :: l2 :: l3 :: l4 :: l5 :: l6 :: l7 :: l8 :: l9 :: l10 :: l11 :: l12 :: L) 12 (.ref x) = l0 :: l1 :: l2 :: l3 :: l4 :: l5 :: l6 :: l7 :: l8 :: l9 :: l10 :: l11 :: .ref x :: L := by simp only [am_st1, am_cl_id hcat]
  rw [← e] at h
  exact w_astore _ _ _ _ _ _ hd hn h
theorem tr_astore_12L {X : Nat × (Nat → Int32)} {d : Nat} {k : am_K} {Q : Option Value → am_M → Prop} {pc : Nat} {L S : List Value} {μ : am_M} {l0 l1 l2 l3 l4 l5 l6 l7 l8 l9 l10 l12 : Value} {z : Int64} {x : Nat} (hd : decode k.2.1 pc = .ok (.astore 12, 2)) (hn : 12 < k.2.2.1) (h : tw X d k Q (pc + 2) (l0 :: l1 :: l2 :: l3 :: l4 :: l5 :: l6 :: l7 :: l8 :: l9 :: l10 :: .float 0 :: .ref x :: L) S μ) : tw X d k Q pc (l0 :: l1 :: l2 :: l3 :: l4 :: l5 :: l6 :: l7 :: l8 :: l9 :: l10 :: .long z :: l12 :: L) (.ref x :: S) μ := by
  have e : am_st1 (l0 :: l1 :: l2 :: l3 :: l4 :: l5 :: l6 :: l7 :: l8 :: l9 :: l10 :: .long z :: l12 :: L) 12 (.ref x) = l0 :: l1 :: l2 :: l3 :: l4 :: l5 :: l6 :: l7 :: l8 :: l9 :: l10 :: .float 0 :: .ref x :: L := by simp only [am_st1, am_cl]
  rw [← e] at h
  exact w_astore _ _ _ _ _ _ hd hn h
theorem tr_lstore_12 {X : Nat × (Nat → Int32)} {d : Nat} {k : am_K} {Q : Option Value → am_M → Prop} {pc : Nat} {L S : List Value} {μ : am_M} {l0 l1 l2 l3 l4 l5 l6 l7 l8 l9 l10 l11 l12 m1 : Value} {x : Int64} (hd : decode k.2.1 pc = .ok (.lstore 12, 2)) (hn : 12 + 1 < k.2.2.1) (hcat : l11.category = 1) (h : tw X d k Q (pc + 2) (l0 :: l1 :: l2 :: l3 :: l4 :: l5 :: l6 :: l7 :: l8 :: l9 :: l10 :: l11 :: .long x :: .float 0 :: L) S μ) : tw X d k Q pc (l0 :: l1 :: l2 :: l3 :: l4 :: l5 :: l6 :: l7 :: l8 :: l9 :: l10 :: l11 :: l12 :: m1 :: L) (.long x :: S) μ := by
  have e : am_st2 (l0 :: l1 :: l2 :: l3 :: l4 :: l5 :: l6 :: l7 :: l8 :: l9 :: l10 :: l11 :: l12 :: m1 :: L) 12 (.long x) = l0 :: l1 :: l2 :: l3 :: l4 :: l5 :: l6 :: l7 :: l8 :: l9 :: l10 :: l11 :: .long x :: .float 0 :: L := by simp only [am_st2, am_cl_id hcat]
  rw [← e] at h
  exact w_lstore _ _ _ _ _ _ hd hn h
theorem tr_lstore_12L {X : Nat × (Nat → Int32)} {d : Nat} {k : am_K} {Q : Option Value → am_M → Prop} {pc : Nat} {L S : List Value} {μ : am_M} {l0 l1 l2 l3 l4 l5 l6 l7 l8 l9 l10 l12 m1 : Value} {z : Int64} {x : Int64} (hd : decode k.2.1 pc = .ok (.lstore 12, 2)) (hn : 12 + 1 < k.2.2.1) (h : tw X d k Q (pc + 2) (l0 :: l1 :: l2 :: l3 :: l4 :: l5 :: l6 :: l7 :: l8 :: l9 :: l10 :: .float 0 :: .long x :: .float 0 :: L) S μ) : tw X d k Q pc (l0 :: l1 :: l2 :: l3 :: l4 :: l5 :: l6 :: l7 :: l8 :: l9 :: l10 :: .long z :: l12 :: m1 :: L) (.long x :: S) μ := by
  have e : am_st2 (l0 :: l1 :: l2 :: l3 :: l4 :: l5 :: l6 :: l7 :: l8 :: l9 :: l10 :: .long z :: l12 :: m1 :: L) 12 (.long x) = l0 :: l1 :: l2 :: l3 :: l4 :: l5 :: l6 :: l7 :: l8 :: l9 :: l10 :: .float 0 :: .long x :: .float 0 :: L := by simp only [am_st2, am_cl]
  rw [← e] at h
  exact w_lstore _ _ _ _ _ _ hd hn h
theorem tr_iinc_12 {X : Nat × (Nat → Int32)} {d : Nat} {k : am_K} {Q : Option Value → am_M → Prop} {pc : Nat} {L S : List Value} {μ : am_M} {l0 l1 l2 l3 l4 l5 l6 l7 l8 l9 l10 l11 : Value} {x : Int32} (hd : decode k.2.1 pc = .ok (.iinc 12 1, 3)) (hn : 12 < k.2.2.1) (hcat : l11.category = 1) (h : tw X d k Q (pc + 3) (l0 :: l1 :: l2 :: l3 :: l4 :: l5 :: l6 :: l7 :: l8 :: l9 :: l10 :: l11 :: .int (x + 1) :: L) S μ) : tw X d k Q pc (l0 :: l1 :: l2 :: l3 :: l4 :: l5 :: l6 :: l7 :: l8 :: l9 :: l10 :: l11 :: .int x :: L) S μ := by
  have e : am_st1 (l0 :: l1 :: l2 :: l3 :: l4 :: l5 :: l6 :: l7 :: l8 :: l9 :: l10 :: l11 :: .int x :: L) 12 (.int (x + 1)) = l0 :: l1 :: l2 :: l3 :: l4 :: l5 :: l6 :: l7 :: l8 :: l9 :: l10 :: l11 :: .int (x + 1) :: L := by simp only [am_st1, am_cl_id hcat]
  rw [← e] at h
  exact w_iinc _ _ _ _ _ _ x _ hd rfl rfl hn h
theorem tr_iincm_12 {X : Nat × (Nat → Int32)} {d : Nat} {k : am_K} {Q : Option Value → am_M → Prop} {pc : Nat} {L S : List Value} {μ : am_M} {l0 l1 l2 l3 l4 l5 l6 l7 l8 l9 l10 l11 : Value} {x : Int32} (hd : decode k.2.1 pc = .ok (.iinc 12 (-1), 3)) (hn : 12 < k.2.2.1) (hcat : l11.category = 1) (h : tw X d k Q (pc + 3) (l0 :: l1 :: l2 :: l3 :: l4 :: l5 :: l6 :: l7 :: l8 :: l9 :: l10 :: l11 :: .int (x - 1) :: L) S μ) : tw X d k Q pc (l0 :: l1 :: l2 :: l3 :: l4 :: l5 :: l6 :: l7 :: l8 :: l9 :: l10 :: l11 :: .int x :: L) S μ := by
  have e : am_st1 (l0 :: l1 :: l2 :: l3 :: l4 :: l5 :: l6 :: l7 :: l8 :: l9 :: l10 :: l11 :: .int x :: L) 12 (.int (x - 1)) = l0 :: l1 :: l2 :: l3 :: l4 :: l5 :: l6 :: l7 :: l8 :: l9 :: l10 :: l11 :: .int (x - 1) :: L := by simp only [am_st1, am_cl_id hcat]
  rw [← e] at h
  exact w_iinc _ _ _ _ _ _ x _ hd rfl (am_m1 x) hn h
theorem tr_istore_13 {X : Nat × (Nat → Int32)} {d : Nat} {k : am_K} {Q : Option Value → am_M → Prop} {pc : Nat} {L S : List Value} {μ : am_M} {l0 l1 l2 l3 l4 l5 l6 l7 l8 l9 l10 l11 l12 l13 : Value} {x : Int32} (hd : decode k.2.1 pc = .ok (.istore 13, 2)) (hn : 13 < k.2.2.1) (hcat : l12.category = 1) (h : tw X d k Q (pc + 2) (l0 :: l1 :: l2 :: l3 :: l4 :: l5 :: l6 :: l7 :: l8 :: l9 :: l10 :: l11 :: l12 :: .int x :: L) S μ) : tw X d k Q pc (l0 :: l1 :: l2 :: l3 :: l4 :: l5 :: l6 :: l7 :: l8 :: l9 :: l10 :: l11 :: l12 :: l13 :: L) (.int x :: S) μ := by
  have e : am_st1 (l0 :: l1 :: l2 :: l3 :: l4 :: l5 :: l6 :: l7 :: l8 :: l9 :: l10 :: l11 :: l12 :: l13 :: L) 13 (.int x) = l0 :: l1 :: l2 :: l3 :: l4 :: l5 :: l6 :: l7 :: l8 :: l9 :: l10 :: l11 :: l12 :: .int x :: L := by simp only [am_st1, am_cl_id hcat]
  rw [← e] at h
  exact w_istore _ _ _ _ _ _ hd hn h
theorem tr_istore_13L {X : Nat × (Nat → Int32)} {d : Nat} {k : am_K} {Q : Option Value → am_M → Prop} {pc : Nat} {L S : List Value} {μ : am_M} {l0 l1 l2 l3 l4 l5 l6 l7 l8 l9 l10 l11 l13 : Value} {z : Int64} {x : Int32} (hd : decode k.2.1 pc = .ok (.istore 13, 2)) (hn : 13 < k.2.2.1) (h : tw X d k Q (pc + 2) (l0 :: l1 :: l2 :: l3 :: l4 :: l5 :: l6 :: l7 :: l8 :: l9 :: l10 :: l11 :: .float 0 :: .int x :: L) S μ) : tw X d k Q pc (l0 :: l1 :: l2 :: l3 :: l4 :: l5 :: l6 :: l7 :: l8 :: l9 :: l10 :: l11 :: .long z :: l13 :: L) (.int x :: S) μ := by
  have e : am_st1 (l0 :: l1 :: l2 :: l3 :: l4 :: l5 :: l6 :: l7 :: l8 :: l9 :: l10 :: l11 :: .long z :: l13 :: L) 13 (.int x) = l0 :: l1 :: l2 :: l3 :: l4 :: l5 :: l6 :: l7 :: l8 :: l9 :: l10 :: l11 :: .float 0 :: .int x :: L := by simp only [am_st1, am_cl]
  rw [← e] at h
  exact w_istore _ _ _ _ _ _ hd hn h
theorem tr_astore_13 {X : Nat × (Nat → Int32)} {d : Nat} {k : am_K} {Q : Option Value → am_M → Prop} {pc : Nat} {L S : List Value} {μ : am_M} {l0 l1 l2 l3 l4 l5 l6 l7 l8 l9 l10 l11 l12 l13 : Value} {x : Nat} (hd : decode k.2.1 pc = .ok (.astore 13, 2)) (hn : 13 < k.2.2.1) (hcat : l12.category = 1) (h : tw X d k Q (pc + 2) (l0 :: l1 :: l2 :: l3 :: l4 :: l5 :: l6 :: l7 :: l8 :: l9 :: l10 :: l11 :: l12 :: .ref x :: L) S μ) : tw X d k Q pc (l0 :: l1 :: l2 :: l3 :: l4 :: l5 :: l6 :: l7 :: l8 :: l9 :: l10 :: l11 :: l12 :: l13 :: L) (.ref x :: S) μ := by
  have e : am_st1 (l0 :: l1 :: l2 :: l3 :: l4 :: l5 :: l6 :: l7 :: l8 :: l9 :: l10 :: l11 :: l12 :: l13 :: L) 13 (.ref x) = l0 :: l1 :: l2 :: l3 :: l4 :: l5 :: l6 :: l7 :: l8 :: l9 :: l10 :: l11 :: l12 :: .ref x :: L := by simp only [am_st1, am_cl_id hcat]
  rw [← e] at h
  exact w_astore _ _ _ _ _ _ hd hn h
theorem tr_astore_13L {X : Nat × (Nat → Int32)} {d : Nat} {k : am_K} {Q : Option Value → am_M → Prop} {pc : Nat} {L S : List Value} {μ : am_M} {l0 l1 l2 l3 l4 l5 l6 l7 l8 l9 l10 l11 l13 : Value} {z : Int64} {x : Nat} (hd : decode k.2.1 pc = .ok (.astore 13, 2)) (hn : 13 < k.2.2.1) (h : tw X d k Q (pc + 2) (l0 :: l1 :: l2 :: l3 :: l4 :: l5 :: l6 :: l7 :: l8 :: l9 :: l10 :: l11 :: .float 0 :: .ref x :: L) S μ) : tw X d k Q pc (l0 :: l1 :: l2 :: l3 :: l4 :: l5 :: l6 :: l7 :: l8 :: l9 :: l10 :: l11 :: .long z :: l13 :: L) (.ref x :: S) μ := by
  have e : am_st1 (l0 :: l1 :: l2 :: l3 :: l4 :: l5 :: l6 :: l7 :: l8 :: l9 :: l10 :: l11 :: .long z :: l13 :: L) 13 (.ref x) = l0 :: l1 :: l2 :: l3 :: l4 :: l5 :: l6 :: l7 :: l8 :: l9 :: l10 :: l11 :: .float 0 :: .ref x :: L := by simp only [am_st1, am_cl]
  rw [← e] at h
  exact w_astore _ _ _ _ _ _ hd hn h
theorem tr_lstore_13 {X : Nat × (Nat → Int32)} {d : Nat} {k : am_K} {Q : Option Value → am_M → Prop} {pc : Nat} {L S : List Value} {μ : am_M} {l0 l1 l2 l3 l4 l5 l6 l7 l8 l9 l10 l11 l12 l13 m1 : Value} {x : Int64} (hd : decode k.2.1 pc = .ok (.lstore 13, 2)) (hn : 13 + 1 < k.2.2.1) (hcat : l12.category = 1) (h : tw X d k Q (pc + 2) (l0 :: l1 :: l2 :: l3 :: l4 :: l5 :: l6 :: l7 :: l8 :: l9 :: l10 :: l11 :: l12 :: .long x :: .float 0 :: L) S μ) : tw X d k Q pc (l0 :: l1 :: l2 :: l3 :: l4 :: l5 :: l6 :: l7 :: l8 :: l9 :: l10 :: l11 :: l12 :: l13 :: m1 :: L) (.long x :: S) μ := by
  have e : am_st2 (l0 :: l1 :: l2 :: l3 :: l4 :: l5 :: l6 :: l7 :: l8 :: l9 :: l10 :: l11 :: l12 :: l13 :: m1 :: L) 13 (.long x) = l0 :: l1 :: l2 :: l3 :: l4 :: l5 :: l6 :: l7 :: l8 :: l9 :: l10 :: l11 :: l12 :: .long x :: .float 0 :: L := by simp only [am_st2, am_cl_id hcat]
  rw [← e] at h
  exact w_lstore _ _ _ _ _ _ hd hn h
theorem tr_lstore_13L {X : Nat × (Nat → Int32)} {d : Nat} {k : am_K} {Q : Option Value → am_M → Prop} {pc : Nat} {L S : List Value} {μ : am_M} {l0 l1 l2 l3 l4 l5 l6 l7 l8 l9 l10 l11 l13 m1 : Value} {z : Int64} {x : Int64} (hd : decode k.2.1 pc = .ok (.lstore 13, 2)) (hn : 13 + 1 < k.2.2.1) (h : tw X d k Q (pc + 2) (l0 :: l1 :: l2 :: l3 :: l4 :: l5 :: l6 :: l7 :: l8 :: l9 :: l10 :: l11 :: .float 0 :: .long x :: .float 0 :: L) S μ) : tw X d k Q pc (l0 :: l1 :: l2 :: l3 :: l4 :: l5 :: l6 :: l7 :: l8 :: l9 :: l10 :: l11 :: .long z :: l13 :: m1 :: L) (.long x :: S) μ := by
  have e : am_st2 (l0 :: l1 :: l2 :: l3 :: l4 :: l5 :: l6 :: l7 :: l8 :: l9 :: l10 :: l11 :: .long z :: l13 :: m1 :: L) 13 (.long x) = l0 :: l1 :: l2 :: l3 :: l4 :: l5 :: l6 :: l7 :: l8 :: l9 :: l10 :: l11 :: .float 0 :: .long x :: .float 0 :: L := by simp only [am_st2, am_cl]
  rw [← e] at h
  exact w_lstore _ _ _ _ _ _ hd hn h
theorem tr_iinc_13 {X : Nat × (Nat → Int32)} {d : Nat} {k : am_K} {Q : Option Value → am_M → Prop} {pc : Nat} {L S : List Value} {μ : am_M} {l0 l1 l2 l3 l4 l5 l6 l7 l8 l9 l10 l11 l12 : Value} {x : Int32} (hd : decode k.2.1 pc = .ok (.iinc 13 1, 3)) (hn : 13 < k.2.2.1) (hcat : l12.category = 1) (h : tw X d k Q (pc + 3) (l0 :: l1 :: l2 :: l3 :: l4 :: l5 :: l6 :: l7 :: l8 :: l9 :: l10 :: l11 :: l12 :: .int (x + 1) :: L) S μ) : tw X d k Q pc (l0 :: l1 :: l2 :: l3 :: l4 :: l5 :: l6 :: l7 :: l8 :: l9 :: l10 :: l11 :: l12 :: .int x :: L) S μ := by
  have e : am_st1 (l0 :: l1 :: l2 :: l3 :: l4 :: l5 :: l6 :: l7 :: l8 :: l9 :: l10 :: l11 :: l12 :: .int x :: L) 13 (.int (x + 1)) = l0 :: l1 :: l2 :: l3 :: l4 :: l5 :: l6 :: l7 :: l8 :: l9 :: l10 :: l11 :: l12 :: .int (x + 1) :: L := by simp only [am_st1, am_cl_id hcat]
  rw [← e] at h
  exact w_iinc _ _ _ _ _ _ x _ hd rfl rfl hn h
theorem tr_iincm_13 {X : Nat × (Nat → Int32)} {d : Nat} {k : am_K} {Q : Option Value → am_M → Prop} {pc : Nat} {L S : List Value} {μ : am_M} {l0 l1 l2 l3 l4 l5 l6 l7 l8 l9 l10 l11 l12 : Value} {x : Int32} (hd : decode k.2.1 pc = .ok (.iinc 13 (-1), 3)) (hn : 13 < k.2.2.1) (hcat : l12.category = 1) (h : tw X d k Q (pc + 3) (l0 :: l1 :: l2 :: l3 :: l4 :: l5 :: l6 :: l7 :: l8 :: l9 :: l10 :: l11 :: l12 :: .int (x - 1) :: L) S μ) : tw X d k Q pc (l0 :: l1 :: l2 :: l3 :: l4 :: l5 :: l6 :: l7 :: l8 :: l9 :: l10 :: l11 :: l12 :: .int x :: L) S μ := by
  have e : am_st1 (l0 :: l1 :: l2 :: l3 :: l4 :: l5 :: l6 :: l7 :: l8 :: l9 :: l10 :: l11 :: l12 :: .int x :: L) 13 (.int (x - 1)) = l0 :: l1 :: l2 :: l3 :: l4 :: l5 :: l6 :: l7 :: l8 :: l9 :: l10 :: l11 :: l12 :: .int (x - 1) :: L := by simp only [am_st1, am_cl_id hcat]
  rw [← e] at h
  exact w_iinc _ _ _ _ _ _ x _ hd rfl (am_m1 x) hn h
theorem tr_istore_14 {X : Nat × (Nat → Int32)} {d : Nat} {k : am_K} {Q : Option Value → am_M → Prop} {pc : Nat} {L S : List Value} {μ : am_M} {l0 l1 l2 l3 l4 l5 l6 l7 l8 l9 l10 l11 l12 l13 l14 : Value} {x : Int32} (hd : decode k.2.1 pc = .ok (.istore 14, 2)) (hn : 14 < k.2.2.1) (hcat : l13.category = 1) (h : tw X d k Q (pc + 2) (l0 :: l1 :: l2 :: l3 :: l4 :: l5 :: l6 :: l7 :: l8 :: l9 :: l10 :: l11 :: l12 :: l13 :: .int x :: L) S μ) : tw X d k Q pc (l0 :: l1 :: l2 :: l3 :: l4 :: l5 :: l6 :: l7 :: l8 :: l9 :: l10 :: l11 :: l12 :: l13 :: l14 :: L) (.int x :: S) μ := by
  have e : am_st1 (l0 :: l1 :: l2 :: l3 :: l4 :: l5 :: l6 :: l7 :: l8 :: l9 :: l10 :: l11 :: l12 :: l13 :: l14 :: L) 14 (.int x) = l0 :: l1 :: l2 :: l3 :: l4 :: l5 :: l6 :: l7 :: l8 :: l9 :: l10 :: l11 :: l12 :: l13 :: .int x :: L := by simp only [am_st1, am_cl_id hcat]
  rw [← e] at h
  exact w_istore _ _ _ _ _ _ hd hn h
theorem tr_istore_14L {X : Nat × (Nat → Int32)} {d : Nat} {k : am_K} {Q : Option Value → am_M → Prop} {pc : Nat} {L S : List Value} {μ : am_M} {l0 l1 l2 l3 l4 l5 l6 l7 l8 l9 l10 l11 l12 l14 : Value} {z : Int64} {x : Int32} (hd : decode k.2.1 pc = .ok (.istore 14, 2)) (hn : 14 < k.2.2.1) (h : tw X d k Q (pc + 2) (l0 :: l1 :: l2 :: l3 :: l4 :: l5 :: l6 :: l7 :: l8 :: l9 :: l10 :: l11 :: l12 :: .float 0 :: .int x :: L) S μ) : tw X d k Q pc (l0 :: l1 :: l2 :: l3 :: l4 :: l5 :: l6 :: l7 :: l8 :: l9 :: l10 :: l11 :: l12 :: .long z :: l14 :: L) (.int x :: S) μ := by
  have e : am_st1 (l0 :: l1 :: l2 :: l3 :: l4 :: l5 :: l6 :: l7 :: l8 :: l9 :: l10 :: l11 :: l12 :: .long z :: l14 :: L) 14 (.int x) = l0 :: l1 :: l2 :: l3 :: l4 :: l5 :: l6 :: l7 :: l8 :: l9 :: l10 :: l11 :: l12 :: .float 0 :: .int x :: L := by simp only [am_st1, am_cl]
  rw [← e] at h
  exact w_istore _ _ _ _ _ _ hd hn h
theorem tr_astore_14 {X : Nat × (Nat → Int32)} {d : Nat} {k : am_K} {Q : Option Value → am_M → Prop} {pc : Nat} {L S : List Value} {μ : am_M} {l0 l1 l2 l3 l4 l5 l6 l7 l8 l9 l10 l11 l12 l13 l14 : Value} {x : Nat} (hd : decode k.2.1 pc = .ok (.astore 14, 2)) (hn : 14 < k.2.2.1) (hcat : l13.category = 1) (h : tw X d k Q (pc + 2) (l0 :: l1 :: l2 :: l3 :: l4 :: l5 :: l6 :: l7 :: l8 :: l9 :: l10 :: l11 :: l12 :: l13 :: .ref x :: L) S μ) : tw X d k Q pc (l0 :: l1 :: l2 :: l3 :: l4 :: l5 :: l6 :: l7 :: l8 :: l9 :: l10 :: l11 :: l12 :: l13 :: l14 :: L) (.ref x :: S) μ := by
  have e : am_st1 (l0 :: l1 :: l2 :: l3 :: l4 :: l5 :: l6 :: l7 :: l8 :: l9 :: l10 :: l11 :: l12 :: l13 :: l14 :: L) 14 (.ref x) = l0 :: l1 :: l2 :: l3 :: l4 :: l5 :: l6 :: l7 :: l8 :: l9 :: l10 :: l11 :: l12 :: l13 :: .ref x :: L := by simp only [am_st1, am_cl_id hcat]
  rw [← e] at h
  exact w_astore _ _ _ _ _ _ hd hn h
theorem tr_astore_14L {X : Nat × (Nat → Int32)} {d : Nat} {k : am_K} {Q : Option Value → am_M → Prop} {pc : Nat} {L S : List Value} {μ : am_M} {l0 l1 l2 l3 l4 l5 l6 l7 l8 l9 l10 l11 l12 l14 : Value} {z : Int64} {x : Nat} (hd : decode k.2.1 pc = .ok (.astore 14, 2)) (hn : 14 < k.2.2.1) (h : tw X d k Q (pc + 2) (l0 :: l1 :: l2 :: l3 :: l4 :: l5 :: l6 :: l7 :: l8 :: l9 :: l10 :: l11 :: l12 :: .float 0 :: .ref x :: L) S μ) : tw X d k Q pc (l0 :: l1 :: l2 :: l3 :: l4 :: l5 :: l6 :: l7 :: l8 :: l9 :: l10 :: l11 :: l12 :: .long z :: l14 :: L) (.ref x :: S) μ := by
  have e : am_st1 (l0 :: l1 :: l2 :: l3 :: l4 :: l5 :: l6 :: l7 :: l8 :: l9 :: l10 :: l11 :: l12 :: .long z :: l14 :: L) 14 (.ref x) = l0 :: l1 :: l2 :: l3 :: l4 :: l5 :: l6 :: l7 :: l8 :: l9 :: l10 :: l11 :: l12 :: .float 0 :: .ref x :: L := by simp only [am_st1, am_cl]
  rw [← e] at h
  exact w_astore _ _ _ _ _ _ hd hn h
theorem tr_lstore_14 {X : Nat × (Nat → Int32)} {d : Nat} {k : am_K} {Q : Option Value → am_M → Prop} {pc : Nat} {L S : List Value} {μ : am_M} {l0 l1 l2 l3 l4 l5 l6 l7 l8 l9 l10 l11 l12 l13 l14 m1 : Value} {x : Int64} (hd : decode k.2.1 pc = .ok (.lstore 14, 2)) (hn : 14 + 1 < k.2.2.1) (hcat : l13.category = 1) (h : tw X d k Q (pc + 2) (l0 :: l1 :: l2 :: l3 :: l4 :: l5 :: l6 :: l7 :: l8 :: l9 :: l10 :: l11 :: l12 :: l13 :: .long x :: .float 0 :: L) S μ) : tw X d k Q pc (l0 :: l1 :: l2 :: l3 :: l4 :: l5 :: l6 :: l7 :: l8 :: l9 :: l10 :: l11 :: l12 :: l13 :: l14 :: m1 :: L) (.long x :: S) μ := by
  have e : am_st2 (l0 :: l1 :: l2 :: l3 :: l4 :: l5 :: l6 :: l7 :: l8 :: l9 :: l10 :: l11 :: l12 :: l13 :: l14 :: m1 :: L) 14 (.long x) = l0 :: l1 :: l2 :: l3 :: l4 :: l5 :: l6 :: l7 :: l8 :: l9 :: l10 :: l11 :: l12 :: l13 :: .long x :: .float 0 :: L := by simp only [am_st2, am_cl_id hcat]
  rw [← e] at h
  exact w_lstore _ _ _ _ _ _ hd hn h
theorem tr_lstore_14L {X : Nat × (Nat → Int32)} {d : Nat} {k : am_K} {Q : Option Value → am_M → Prop} {pc : Nat} {L S : List Value} {μ : am_M} {l0 l1 l2 l3 l4 l5 l6 l7 l8 l9 l10 l11 l12 l14 m1 : Value} {z : Int64} {x : Int64} (hd : decode k.2.1 pc = .ok (.lstore 14, 2)) (hn : 14 + 1 < k.2.2.1) (h : tw X d k Q (pc + 2) (l0 :: l1 :: l2 :: l3 :: l4 :: l5 :: l6 :: l7 :: l8 :: l9 :: l10 :: l11 :: l12 :: .float 0 :: .long x :: .float 0 :: L) S μ) : tw X d k Q pc (l0 :: l1 :: l2 :: l3 :: l4 :: l5 :: l6 :: l7 :: l8 :: l9 :: l10 :: l11 :: l12 :: .long z :: l14 :: m1 :: L) (.long x :: S) μ := by
  have e : am_st2 (l0 :: l1 :: l2 :: l3 :: l4 :: l5 :: l6 :: l7 :: l8 :: l9 :: l10 :: l11 :: l12 :: .long z :: l14 :: m1 :: L) 14 (.long x) = l0 :: l1 :: l2 :: l3 :: l4 :: l5 :: l6 :: l7 :: l8 :: l9 :: l10 :: l11 :: l12 :: .float 0 :: .long x :: .float 0 :: L := by simp only [am_st2, am_cl]
  rw [← e] at h
  exact w_lstore _ _ _ _ _ _ hd hn h
theorem tr_iinc_14 {X : Nat × (Nat → Int32)} {d : Nat} {k : am_K} {Q : Option Value → am_M → Prop} {pc : Nat} {L S : List Value} {μ : am_M} {l0 l1 l2 l3 l4 l5 l6 l7 l8 l9 l10 l11 l12 l13 : Value} {x : Int32} (hd : decode k.2.1 pc = .ok (.iinc 14 1, 3)) (hn : 14 < k.2.2.1) (hcat : l13.category = 1) (h : tw X d k Q (pc + 3) (l0 :: l1 :: l2 :: l3 :: l4 :: l5 :: l6 :: l7 :: l8 :: l9 :: l10 :: l11 :: l12 :: l13 :: .int (x + 1) :: L) S μ) : tw X d k Q pc (l0 :: l1 :: l2 :: l3 :: l4 :: l5 :: l6 :: l7 :: l8 :: l9 :: l10 :: l11 :: l12 :: l13 :: .int x :: L) S μ := by
  have e : am_st1 (l0 :: l1 :: l2 :: l3 :: l4 :: l5 :: l6 :: l7 :: l8 :: l9 :: l10 :: l11 :: l12 :: l13 :: .int x :: L) 14 (.int (x + 1)) = l0 :: l1 :: l2 :: l3 :: l4 :: l5 :: l6 :: l7 :: l8 :: l9 :: l10 :: l11 :: l12 :: l13 :: .int (x + 1) :: L := by simp only [am_st1, am_cl_id hcat]
  rw [← e] at h
  exact w_iinc _ _ _ _ _ _ x _ hd rfl rfl hn h
theorem tr_iincm_14 {X : Nat × (Nat → Int32)} {d : Nat} {k : am_K} {Q : Option Value → am_M → Prop} {pc : Nat} {L S : List Value} {μ : am_M} {l0 l1 l2 l3 l4 l5 l6 l7 l8 l9 l10 l11 l12 l13 : Value} {x : Int32} (hd : decode k.2.1 pc = .ok (.iinc 14 (-1), 3)) (hn : 14 < k.2.2.1) (hcat : l13.category = 1) (h : tw X d k Q (pc + 3) (l0 :: l1 :: l2 :: l3 :: l4 :: l5 :: l6 :: l7 :: l8 :: l9 :: l10 :: l11 :: l12 :: l13 :: .int (x - 1) :: L) S μ) : tw X d k Q pc (l0 :: l1 :: l2 :: l3 :: l4 :: l5 :: l6 :: l7 :: l8 :: l9 :: l10 :: l11 :: l12 :: l13 :: .int x :: L) S μ := by
  have e : am_st1 (l0 :: l1 :: l2 :: l3 :: l4 :: l5 :: l6 :: l7 :: l8 :: l9 :: l10 :: l11 :: l12 :: l13 :: .int x :: L) 14 (.int (x - 1)) = l0 :: l1 :: l2 :: l3 :: l4 :: l5 :: l6 :: l7 :: l8 :: l9 :: l10 :: l11 :: l12 :: l13 :: .int (x - 1) :: L := by simp only [am_st1, am_cl_id hcat]
  rw [← e] at h
  exact w_iinc _ _ _ _ _ _ x _ hd rfl (am_m1 x) hn h
theorem tr_istore_15 {X : Nat × (Nat → Int32)} {d : Nat} {k : am_K} {Q : Option Value → am_M → Prop} {pc : Nat} {L S : List Value} {μ : am_M} {l0 l1 l2 l3 l4 l5 l6 l7 l8 l9 l10 l11 l12 l13 l14 l15 : Value} {x : Int32} (hd : decode k.2.1 pc = .ok (.istore 15, 2)) (hn : 15 < k.2.2.1) (hcat : l14.category = 1) (h : tw X d k Q (pc + 2) (l0 :: l1 :: l2 :: l3 :: l4 :: l5 :: l6 :: l7 :: l8 :: l9 :: l10 :: l11 :: l12 :: l13 :: l14 :: .int x :: L) S μ) : tw X d k Q pc (l0 :: l1 :: l2 :: l3 :: l4 :: l5 :: l6 :: l7 :: l8 :: l9 :: l10 :: l11 :: l12 :: l13 :: l14 :: l15 :: L) (.int x :: S) μ := by
  have e : am_st1 (l0 :: l1 :: l2 :: l3 :: l4 :: l5 :: l6 :: l7 :: l8 :: l9 :: l10 :: l11 :: l12 :: l13 :: l14 :: l15 :: L) 15 (.int x) = l0 :: l1 :: l2 :: l3 :: l4 :: l5 :: l6 :: l7 :: l8 :: l9 :: l10 :: l11 :: l12 :: l13 :: l14 :: .int x :: L := by simp only [am_st1, am_cl_id hcat]
  rw [← e] at h
  exact w_istore _ _ _ _ _ _ hd hn h
theorem tr_istore_15L {X : Nat × (Nat → Int32)} {d : Nat} {k : am_K} {Q : Option Value → am_M → Prop} {pc : Nat} {L S : List Value} {μ : am_M} {l0 l1 l2 l3 l4 l5 l6 l7 l8 l9 l10 l11 l12 l13 l15 : Value} {z : Int64} {x : Int32} (hd : decode k.2.1 pc = .ok (.istore 15, 2)) (hn : 15 < k.2.2.1) (h : tw X d k Q (pc + 2) (l0 :: l1 :: l2 :: l3 :: l4 :: l5 :: l6 :: l7 :: l8 :: l9 :: l10 :: l11 :: l12 :: l13 :: .float 0 :: .int x :: L) S μ) : tw X d k Q pc (l0 :: l1 :: l2 :: l3 :: l4 :: l5 :: l6 :: l7 :: l8 :: l9 :: l10 :: l11 :: l12 :: l13 :: .long z :: l15 :: L) (.int x :: S) μ := by
  have e : am_st1 (l0 :: l1 :: l2 :: l3 :: l4 :: l5 :: l6 :: l7 :: l8 :: l9 :: l10 :: l11 :: l12 :: l13 :: .long z :: l15 :: L) 15 (.int x) = l0 :: l1 :: l2 :: l3 :: l4 :: l5 :: l6 :: l7 :: l8 :: l9 :: l10 :: l11 :: l12 :: l13 :: .float 0 :: .int x :: L := by simp only [am_st1, am_cl]
  rw [← e] at h
  exact w_istore _ _ _ _ _ _ hd hn h
theorem tr_astore_15 {X : Nat × (Nat → Int32)} {d : Nat} {k : am_K} {Q : Option Value → am_M → Prop} {pc : Nat} {L S : List Value} {μ : am_M} {l0 l1 l2 l3 l4 l5 l6 l7 l8 l9 l10 l11 l12 l13 l14 l15 : Value} {x : Nat} (hd : decode k.2.1 pc = .ok (.astore 15, 2)) (hn : 15 < k.2.2.1) (hcat : l14.category = 1) (h : tw X d k Q (pc + 2) (l0 :: l1 :: l2 :: l3 :: l4 :: l5 :: l6 :: l7 :: l8 :: l9 :: l10 :: l11 :: l12 :: l13 :: l14 :: .ref x :: L) S μ) : tw X d k Q pc (l0 :: l1 :: l2 :: l3 :: l4 :: l5 :: l6 :: l7 :: l8 :: l9 :: l10 :: l11 :: l12 :: l13 :: l14 :: l15 :: L) (.ref x :: S) μ := by
  have e : am_st1 (l0 :: l1 :: l2 :: l3 :: l4 :: l5 :: l6 :: l7 :: l8 :: l9 :: l10 :: l11 :: l12 :: l13 :: l14 :: l15 :: L) 15 (.ref x) = l0 :: l1 :: l2 :: l3 :: l4 :: l5 :: l6 :: l7 :: l8 :: l9 :: l10 :: l11 :: l12 :: l13 :: l14 :: .ref x :: L := by simp only [am_st1, am_cl_id hcat]
  rw [← e] at h
  exact w_astore _ _ _ _ _ _ hd hn h
theorem tr_astore_15L {X : Nat × (Nat → Int32)} {d : Nat} {k : am_K} {Q : Option Value → am_M → Prop} {pc : Nat} {L S : List Value} {μ : am_M} {l0 l1 l2 l3 l4 l5 l6 l7 l8 l9 l10 l11 l12 l13 l15 : Value} {z : Int64} {x : Nat} (hd : decode k.2.1 pc = .ok (.astore 15, 2)) (hn : 15 < k.2.2.1) (h : tw X d k Q (pc + 2) (l0 :: l1 :: l2 :: l3 :: l4 :: l5 :: l6 :: l7 :: l8 :: l9 :: l10 :: l11 :: l12 :: l13 :: .float 0 :: .ref x :: L) S μ) : tw X d k Q pc (l0 :: l1 :: l2 :: l3 :: l4 :: l5 :: l6 :: l7 :: l8 :: l9 :: l10 :: l11 :: l12 :: l13 :: .long z :: l15 :: L) (.ref x :: S) μ := by
  have e : am_st1 (l0 :: l1 :: l2 :: l3 :: l4 :: l5 :: l6 :: l7 :: l8 :: l9 :: l10 :: l11 :: l12 :: l13 :: .long z :: l15 :: L) 15 (.ref x) = l0 :: l1 :: l2 :: l3 :: l4 :: l5 :: l6 :: l7 :: l8 :: l9 :: l10 :: l11 :: l12 :: l13 :: .float 0 :: .ref x :: L := by simp only [am_st1, am_cl]
  rw [← e] at h
  exact w_astore _ _ _ _ _ _ hd hn h
theorem tr_lstore_15 {X : Nat × (Nat → Int32)} {d : Nat} {k : am_K} {Q : Option Value → am_M → Prop} {pc : Nat} {L S : List Value} {μ : am_M} {l0 l1 l2 l3 l4 l5 l6 l7 l8 l9 l10 l11 l12 l13 l14 l15 m1 : Value} {x : Int64} (hd : decode k.2.1 pc = .ok (.lstore 15, 2)) (hn : 15 + 1 < k.2.2.1) (hcat : l14.category = 1) (h : tw X d k Q (pc + 2) (l0 :: l1 :: l2 :: l3 :: l4 :: l5 :: l6 :: l7 :: l8 :: l9 :: l10 :: l11 :: l12 :: l13 :: l14 :: .long x :: .float 0 :: L) S μ) : tw X d k Q pc (l0 :: l1 :: l2 :: l3 :: l4 :: l5 :: l6 :: l7 :: l8 :: l9 :: l10 :: l11 :: l12 :: l13 :: l14 :: l15 :: m1 :: L) (.long x :: S) μ := by
  have e : am_st2 (l0 :: l1 :: l2 :: l3 :: l4 :: l5 :: l6 :: l7 :: l8 :: l9 :: l10 :: l11 :: l12 :: l13 :: l14 :: l15 :: m1 :: L) 15 (.long x) = l0 :: l1 :: l2 :: l3 :: l4 :: l5 :: l6 :: l7 :: l8 :: l9 :: l10 :: l11 :: l12 :: l13 :: l14 :: .long x :: .float 0 :: L := by simp only [am_st2, am_cl_id hcat]
  rw [← e] at h
  exact w_lstore _ _ _ _ _ _ hd hn h
theorem tr_lstore_15L {X : Nat × (Nat → Int32)} {d : Nat} {k : am_K} {Q : Option Value → am_M → Prop} {pc : Nat} {L S : List Value} {μ : am_M} {l0 l1 l2 l3 l4 l5 l6 l7 l8 l9 l10 l11 l12 l13 l15 m1 : Value} {z : Int64} {x : Int64} (hd : decode k.2.1 pc = .ok (.lstore 15, 2)) (hn : 15 + 1 < k.2.2.1) (h : tw X d k Q (pc + 2) (l0 :: l1 :: l2 :: l3 :: l4 :: l5 :: l6 :: l7 :: l8 :: l9 :: l10 :: l11 :: l12 :: l13 :: .float 0 :: .long x :: .float 0 :: L) S μ) : tw X d k Q pc (l0 :: l1 :: l2 :: l3 :: l4 :: l5 :: l6 :: l7 :: l8 :: l9 :: l10 :: l11 :: l12 :: l13 :: .long z :: l15 :: m1 :: L) (.long x :: S) μ := by
  have e : am_st2 (l0 :: l1 :: l2 :: l3 :: l4 :: l5 :: l6 :: l7 :: l8 :: l9 :: l10 :: l11 :: l12 :: l13 :: .long z :: l15 :: m1 :: L) 15 (.long x) = l0 :: l1 :: l2 :: l3 :: l4 :: l5 :: l6 :: l7 :: l8 :: l9 :: l10 :: l11 :: l12 :: l13 :: .float 0 :: .long x :: .float 0 :: L := by simp only [am_st2, am_cl]
  rw [← e] at h
  exact w_lstore _ _ _ _ _ _ hd hn h
theorem tr_iinc_15 {X : Nat × (Nat → Int32)} {d : Nat} {k : am_K} {Q : Option Value → am_M → Prop} {pc : Nat} {L S : List Value} {μ : am_M} {l0 l1 l2 l3 l4 l5 l6 l7 l8 l9 l10 l11 l12 l13 l14 : Value} {x : Int32} (hd : decode k.2.1 pc = .ok (.iinc 15 1, 3)) (hn : 15 < k.2.2.1) (hcat : l14.category = 1) (h : tw X d k Q (pc + 3) (l0 :: l1 :: l2 :: l3 :: l4 :: l5 :: l6 :: l7 :: l8 :: l9 :: l10 :: l11 :: l12 :: l13 :: l14 :: .int (x + 1) :: L) S μ) : tw X d k Q pc (l0 :: l1 :: l2 :: l3 :: l4 :: l5 :: l6 :: l7 :: l8 :: l9 :: l10 :: l11 :: l12 :: l13 :: l14 :: .int x :: L) S μ := by
  have e : am_st1 (l0 :: l1 :: l2 :: l3 :: l4 :: l5 :: l6 :: l7 :: l8 :: l9 :: l10 :: l11 :: l12 :: l13 :: l14 :: .int x :: L) 15 (.int (x + 1)) = l0 :: l1 :: l2 :: l3 :: l4 :: l5 :: l6 :: l7 :: l8 :: l9 :: l10 :: l11 :: l12 :: l13 :: l14 :: .int (x + 1) :: L := by simp only [am_st1, am_cl_id hcat]
  rw [← e] at h
  exact w_iinc _ _ _ _ _ _ x _ hd rfl rfl hn h
theorem tr_iincm_15 {X : Nat × (Nat → Int32)} {d : Nat} {k : am_K} {Q : Option Value → am_M → Prop} {pc : Nat} {L S : List Value} {μ : am_M} {l0 l1 l2 l3 l4 l5 l6 l7 l8 l9 l10 l11 l12 l13 l14 : Value} {x : Int32} (hd : decode k.2.1 pc = .ok (.iinc 15 (-1), 3)) (hn : 15 < k.2.2.1) (hcat : l14.category = 1) (h : tw X d k Q (pc + 3) (l0 :: l1 :: l2 :: l3 :: l4 :: l5 :: l6 :: l7 :: l8 :: l9 :: l10 :: l11 :: l12 :: l13 :: l14 :: .int (x - 1) :: L) S μ) : tw X d k Q pc (l0 :: l1 :: l2 :: l3 :: l4 :: l5 :: l6 :: l7 :: l8 :: l9 :: l10 :: l11 :: l12 :: l13 :: l14 :: .int x :: L) S μ := by
  have e : am_st1 (l0 :: l1 :: l2 :: l3 :: l4 :: l5 :: l6 :: l7 :: l8 :: l9 :: l10 :: l11 :: l12 :: l13 :: l14 :: .int x :: L) 15 (.int (x - 1)) = l0 :: l1 :: l2 :: l3 :: l4 :: l5 :: l6 :: l7 :: l8 :: l9 :: l10 :: l11 :: l12 :: l13 :: l14 :: .int (x - 1) :: L := by simp only [am_st1, am_cl_id hcat]
  rw [← e] at h
  exact w_iinc _ _ _ _ _ _ x _ hd rfl (am_m1 x) hn h
theorem tr_istore_16 {X : Nat × (Nat → Int32)} {d : Nat} {k : am_K} {Q : Option Value → am_M → Prop} {pc : Nat} {L S : List Value} {μ : am_M} {l0 l1 l2 l3 l4 l5 l6 l7 l8 l9 l10 l11 l12 l13 l14 l15 l16 : Value} {x : Int32} (hd : decode k.2.1 pc = .ok (.istore 16, 2)) (hn : 16 < k.2.2.1) (hcat : l15.category = 1) (h : tw X d k Q (pc + 2) (l0 :: l1 :: l2 :: l3 :: l4 :: l5 :: l6 :: l7 :: l8 :: l9 :: l10 :: l11 :: l12 :: l13 :: l14 :: l15 :: .int x :: L) S μ) : tw X d k Q pc (l0 :: l1 :: l2 :: l3 :: l4 :: l5 :: l6 :: l7 :: l8 :: l9 :: l10 :: l11 :: l12 :: l13 :: l14 :: l15 :: l16 :: L) (.int x :: S) μ := by
  have e : am_st1 (l0 :: l1 :: l2 :: l3 :: l4 :: l5 :: l6 :: l7 :: l8 :: l9 :: l10 :: l11 :: l12 :: l13 :: l14 :: l15 :: l16 :: L) 16 (.int x) = l0 :: l1 :: l2 :: l3 :: l4 :: l5 :: l6 :: l7 :: l8 :: l9 :: l10 :: l11 :: l12 :: l13 :: l14 :: l15 :: .int x :: L := by simp only [am_st1, am_cl_id hcat]
  rw [← e] at h
  exact w_istore _ _ _ _ _ _ hd hn h
theorem tr_istore_16L {X : Nat × (Nat → Int32)} {d : Nat} {k : am_K} {Q : Option Value → am_M → Prop} {pc : Nat} {L S : List Value} {μ : am_M} {l0 l1 l2 l3 l4 l5 l6 l7 l8 l9 l10 l11 l12 l13 l14 l16 : Value} {z : Int64} {x : Int32} (hd : decode k.2.1 pc = .ok (.istore 16, 2)) (hn : 16 < k.2.2.1) (h : tw X d k Q (pc + 2) (l0 :: l1 :: l2 :: l3 :: l4 :: l5 :: l6 :: l7 :: l8 :: l9 :: l10 :: l11 :: l12 :: l13 :: l14 :: .float 0 :: .int x :: L) S μ) : tw X d k Q pc (l0 :: l1 :: l2 :: l3 :: l4 :: l5 :: l6 :: l7 :: l8 :: l9 :: l10 :: l11 :: l12 :: l13 :: l14 :: .long z :: l16 :: L) (.int x :: S) μ := by
  have e : am_st1 (l0 :: l1 :: l2 :: l3 :: l4 :: l5 :: l6 :: l7 :: l8 :: l9 :: l10 :: l11 :: l12 :: l13 :: l14 :: .long z :: l16 :: L) 16 (.int x) = l0 :: l1 :: l2 :: l3 :: l4 :: l5 :: l6 :: l7 :: l8 :: l9 :: l10 :: l11 :: l12 :: l13 :: l14 :: .float 0 :: .int x :: L := by simp only [am_st1, am_cl]
  rw [← e] at h
  exact w_istore _ _ _ _ _ _ hd hn h
theorem tr_astore_16 {X : Nat × (Nat → Int32)} {d : Nat} {k : am_K} {Q : Option Value → am_M → Prop} {pc : Nat} {L S : List Value} {μ : am_M} {l0 l1 l2 l3 l4 l5 l6 l7 l8 l9 l10 l11 l12 l13 l14 l15 l16 : Value} {x : Nat} (hd : decode k.2.1 pc = .ok (.astore 16, 2)) (hn : 16 < k.2.2.1) (hcat : l15.category = 1) (h : tw X d k Q (pc + 2) (l0 :: l1 :: l2 :: l3 :: l4 :: l5 :: l6 :: l7 :: l8 :: l9 :: l10 :: l11 :: l12 :: l13 :: l14 :: l15 :: .ref x :: L) S μ) : tw X d k Q pc (l0 :: l1 :: l2 :: l3 :: l4 :: l5 :: l6 :: l7 :: l8 :: l9 :: l10 :: l11 :: l12 :: l13 :: l14 :: l15 :: l16 :: L) (.ref x :: S) μ := by
  have e : am_st1 (l0 :: l1 :: l2 :: l3 :: l4 :: l5 :: l6 :: l7 :: l8 :: l9 :: l10 :: l11 :: l12 :: l13 :: l14 :: l15 :: l16 :: L) 16 (.ref x) = l0 :: l1 :: l2 :: l3 :: l4 :: l5 :: l6 :: l7 :: l8 :: l9 :: l10 :: l11 :: l12 :: l13 :: l14 :: l15 :: .ref x :: L := by simp only [am_st1, am_cl_id hcat]
  rw [← e] at h
  exact w_astore _ _ _ _ _ _ hd hn h
theorem tr_astore_16L {X : Nat × (Nat → Int32)} {d : Nat} {k : am_K} {Q : Option Value → am_M → Prop} {pc : Nat} {L S : List Value} {μ : am_M} {l0 l1 l2 l3 l4 l5 l6 l7 l8 l9 l10 l11 l12 l13 l14 l16 : Value} {z : Int64} {x : Nat} (hd : decode k.2.1 pc = .ok (.astore 16, 2)) (hn : 16 < k.2.2.1) (h : tw X d k Q (pc + 2) (l0 :: l1 :: l2 :: l3 :: l4 :: l5 :: l6 :: l7 :: l8 :: l9 :: l10 :: l11 :: l12 :: l13 :: l14 :: .float 0 :: .ref x :: L) S μ) : tw X d k Q pc (l0 :: l1 :: l2 :: l3 :: l4 :: l5 :: l6 :: l7 :: l8 :: l9 :: l10 :: l11 :: l12 :: l13 :: l14 :: .long z :: l16 :: L) (.ref x :: S) μ := by
  have e : am_st1 (l0 :: l1 :: l2 :: l3 :: l4 :: l5 :: l6 :: l7 :: l8 :: l9 :: l10 :: l11 :: l12 :: l13 :: l14 :: .long z :: l16 :: L) 16 (.ref x) = l0 :: l1 :: l2 :: l3 :: l4 :: l5 :: l6 :: l7 :: l8 :: l9 :: l10 :: l11 :: l12 :: l13 :: l14 :: .float 0 :: .ref x :: L := by simp only [am_st1, am_cl]
  rw [← e] at h
  exact w_astore _ _ _ _ _ _ hd hn h
theorem tr_lstore_16 {X : Nat × (Nat → Int32)} {d : Nat} {k : am_K} {Q : Option Value → am_M → Prop} {pc : Nat} {L S : List Value} {μ : am_M} {l0 l1 l2 l3 l4 l5 l6 l7 l8 l9 l10 l11 l12 l13 l14 l15 l16 m1 : Value} {x : Int64} (hd : decode k.2.1 pc = .ok (.lstore 16, 2)) (hn : 16 + 1 < k.2.2.1) (hcat : l15.category = 1) (h : tw X d k Q (pc + 2) (l0 :: l1 :: l2 :: l3 :: l4 :: l5 :: l6 :: l7 :: l8 :: l9 :: l10 :: l11 :: l12 :: l13 :: l14 :: l15 :: .long x :: .float 0 :: L) S μ) : tw X d k Q pc (l0 :: l1 :: l2 :: l3 :: l4 :: l5 :: l6 :: l7 :: l8 :: l9 :: l10 :: l11 :: l12 :: l13 :: l14 :: l15 :: l16 :: m1 :: L) (.long x :: S) μ := by
  have e : am_st2 (l0 :: l1 :: l2 :: l3 :: l4 :: l5 :: l6 :: l7 :: l8 :: l9 :: l10 :: l11 :: l12 :: l13 :: l14 :: l15 :: l16 :: m1 :: L) 16 (.long x) = l0 :: l1 :: l2 :: l3 :: l4 :: l5 :: l6 :: l7 :: l8 :: l9 :: l10 :: l11 :: l12 :: l13 :: l14 :: l15 :: .long x :: .float 0 :: L := by simp only [am_st2, am_cl_id hcat]
  rw [← e] at h
  exact w_lstore _ _ _ _ _ _ hd hn h
theorem tr_lstore_16L {X : Nat × (Nat → Int32)} {d : Nat} {k : am_K} {Q : Option Value → am_M → Prop} {pc : Nat} {L S : List Value} {μ : am_M} {l0 l1 l2 l3 l4 l5 l6 l7 l8 l9 l10 l11 l12 l13 l14 l16 m1 : Value} {z : Int64} {x : Int64} (hd : decode k.2.1 pc = .ok (.lstore 16, 2)) (hn : 16 + 1 < k.2.2.1) (h : tw X d k Q (pc + 2) (l0 :: l1 :: l2 :: l3 :: l4 :: l5 :: l6 :: l7 :: l8 :: l9 :: l10 :: l11 :: l12 :: l13 :: l14 :: .float 0 :: .long x :: .float 0 :: L) S μ) : tw X d k Q pc (l0 :: l1 :: l2 :: l3 :: l4 :: l5 :: l6 :: l7 :: l8 :: l9 :: l10 :: l11 :: l12 :: l13 :: l14 :: .long z :: l16 :: m1 :: L) (.long x :: S) μ := by
  have e : am_st2 (l0 :: l1 :: l2 :: l3 :: l4 :: l5 :: l6 :: l7 :: l8 :: l9 :: l10 :: l11 :: l12 :: l13 :: l14 :: .long z :: l16 :: m1 :: L) 16 (.long x) = l0 :: l1 :: l2 :: l3 :: l4 :: l5 :: l6 :: l7 :: l8 :: l9 :: l10 :: l11 :: l12 :: l13 :: l14 :: .float 0 :: .long x :: .float 0 :: L := by simp only [am_st2, am_cl]
  rw [← e] at h
  exact w_lstore _ _ _ _ _ _ hd hn h
theorem tr_iinc_16 {X : Nat × (Nat → Int32)} {d : Nat} {k : am_K} {Q : Option Value → am_M → Prop} {pc : Nat} {L S : List Value} {μ : am_M} {l0 l1 l2 l3 l4 l5 l6 l7 l8 l9 l10 l11 l12 l13 l14 l15 : Value} {x : Int32} (hd : decode k.2.1 pc = .ok (.iinc 16 1, 3)) (hn : 16 < k.2.2.1) (hcat : l15.category = 1) (h : tw X d k Q (pc + 3) (l0 :: l1 :: l2 :: l3 :: l4 :: l5 :: l6 :: l7 :: l8 :: l9 :: l10 :: l11 :: l12 :: l13 :: l14 :: l15 :: .int (x + 1) :: L) S μ) : tw X d k Q pc (l0 :: l1 :: l2 :: l3 :: l4 :: l5 :: l6 :: l7 :: l8 :: l9 :: l10 :: l11 :: l12 :: l13 :: l14 :: l15 :: .int x :: L) S μ := by
  have e : am_st1 (l0 :: l1 :: l2 :: l3 :: l4 :: l5 :: l6 :: l7 :: l8 :: l9 :: l10 :: l11 :: l12 :: l13 :: l14 :: l15 :: .int x :: L) 16 (.int (x + 1)) = l0 :: l1 :: l2 :: l3 :: l4 :: l5 :: l6 :: l7 :: l8 :: l9 :: l10 :: l11 :: l12 :: l13 :: l14 :: l15 :: .int (x + 1) :: L := by simp only [am_st1, am_cl_id hcat]
  rw [← e] at h
  exact w_iinc _ _ _ _ _ _ x _ hd rfl rfl hn h
theorem tr_iincm_16 {X : Nat × (Nat → Int32)} {d : Nat} {k : am_K} {Q : Option Value → am_M → Prop} {pc : Nat} {L S : List Value} {μ : am_M} {l0 l1 l2 l3 l4 l5 l6 l7 l8 l9 l10 l11 l12 l13 l14 l15 : Value} {x : Int32} (hd : decode k.2.1 pc = .ok (.iinc 16 (-1), 3)) (hn : 16 < k.2.2.1) (hcat : l15.category = 1) (h : tw X d k Q (pc + 3) (l0 :: l1 :: l2 :: l3 :: l4 :: l5 :: l6 :: l7 :: l8 :: l9 :: l10 :: l11 :: l12 :: l13 :: l14 :: l15 :: .int (x - 1) :: L) S μ) : tw X d k Q pc (l0 :: l1 :: l2 :: l3 :: l4 :: l5 :: l6 :: l7 :: l8 :: l9 :: l10 :: l11 :: l12 :: l13 :: l14 :: l15 :: .int x :: L) S μ := by
  have e : am_st1 (l0 :: l1 :: l2 :: l3 :: l4 :: l5 :: l6 :: l7 :: l8 :: l9 :: l10 :: l11 :: l12 :: l13 :: l14 :: l15 :: .int x :: L) 16 (.int (x - 1)) = l0 :: l1 :: l2 :: l3 :: l4 :: l5 :: l6 :: l7 :: l8 :: l9 :: l10 :: l11 :: l12 :: l13 :: l14 :: l15 :: .int (x - 1) :: L := by simp only [am_st1, am_cl_id hcat]
  rw [← e] at h
  exact w_iinc _ _ _ _ _ _ x _ hd rfl (am_m1 x) hn h
theorem tr_istore_17 {X : Nat × (Nat → Int32)} {d : Nat} {k : am_K} {Q : Option Value → am_M → Prop} {pc : Nat} {L S : List Value} {μ : am_M} {l0 l1 l2 l3 l4 l5 l6 l7 l8 l9 l10 l11 l12 l13 l14 l15 l16 l17 : Value} {x : Int32} (hd : decode k.2.1 pc = .ok (.istore 17, 2)) (hn : 17 < k.2.2.1) (hcat : l16.category = 1) (h : tw X d k Q (pc + 2) (l0 :: l1 :: l2 :: l3 :: l4 :: l5 :: l6 :: l7 :: l8 :: l9 :: l10 :: l11 :: l12 :: l13 :: l14 :: l15 :: l16 :: .int x :: L) S μ) : tw X d k Q pc (l0 :: l1 :: l2 :: l3 :: l4 :: l5 :: l6 :: l7 :: l8 :: l9 :: l10 :: l11 :: l12 :: l13 :: l14 :: l15 :: l16 :: l17 :: L) (.int x :: S) μ := by
  have e : am_st1 (l0 :: l1 :: l2 :: l3 :: l4 :: l5 :: l6 :: l7 :: l8 :: l9 :: l10 :: l11 :: l12 :: l13 :: l14 :: l15 :: l16 :: l17 :: L) 17 (.int x) = l0 :: l1 :: l2 :: l3 :: l4 :: l5 :: l6 :: l7 :: l8 :: l9 :: l10 :: l11 :: l12 :: l13 :: l14 :: l15 :: l16 :: .int x :: L := by simp only [am_st1, am_cl_id hcat]
  rw [← e] at h
  exact w_istore _ _ _ _ _ _ hd hn h
theorem tr_istore_17L {X : Nat × (Nat → Int32)} {d : Nat} {k : am_K} {Q : Option Value → am_M → Prop} {pc : Nat} {L S : List Value} {μ : am_M} {l0 l1 l2 l3 l4 l5 l6 l7 l8 l9 l10 l11 l12 l13 l14 l15 l17 : Value} {z : Int64} {x : Int32} (hd : decode k.2.1 pc = .ok (.istore 17, 2)) (hn : 17 < k.2.2.1) (h : tw X d k Q (pc + 2) (l0 :: l1 :: l2 :: l3 :: l4 :: l5 :: l6 :: l7 :: l8 :: l9 :: l10 :: l11 :: l12 :: l13 :: l14 :: l15 :: .float 0 :: .int x :: L) S μ) : tw X d k Q pc (l0 :: l1 :: l2 :: l3 :: l4 :: l5 :: l6 :: l7 :: l8 :: l9 :: l10 :: l11 :: l12 :: l13 :: l14 :: l15 :: .long z :: l17 :: L) (.int x :: S) μ := by
  have e : am_st1 (l0 :: l1 :: l2 :: l3 :: l4 :: l5 :: l6 :: l7 :: l8 :: l9 :: l10 :: l11 :: l12 :: l13 :: l14 :: l15 :: .long z :: l17 :: L) 17 (.int x) = l0 :: l1 :: l2 :: l3 :: l4 :: l5 :: l6 :: l7 :: l8 :: l9 :: l10 :: l11 :: l12 :: l13 :: l14 :: l15 :: .float 0 :: .int x :: L := by simp only [am_st1, am_cl]
  rw [← e] at h
  exact w_istore _ _ _ _ _ _ hd hn h
theorem tr_astore_17 {X : Nat × (Nat → Int32)} {d : Nat} {k : am_K} {Q : Option Value → am_M → Prop} {pc : Nat} {L S : List Value} {μ : am_M} {l0 l1 l2 l3 l4 l5 l6 l7 l8 l9 l10 l11 l12 l13 l14 l15 l16 l17 : Value} {x : Nat} (hd : decode k.2.1 pc = .ok (.astore 17, 2)) (hn : 17 < k.2.2.1) (hcat : l16.category = 1) (h : tw X d k Q (pc + 2) (l0 :: l1 :: l2 :: l3 :: l4 :: l5 :: l6 :: l7 :: l8 :: l9 :: l10 :: l11 :: l12 :: l13 :: l14 :: l15 :: l16 :: .ref x :: L) S μ) : tw X d k Q pc (l0 :: l1 :: l2 :: l3 :: l4 :: l5 :: l6 :: l7 :: l8 :: l9 :: l10 :: l11 :: l12 :: l13 :: l14 :: l15 :: l16 :: l17 :: L) (.ref x :: S) μ := by
  have e : am_st1 (l0 :: l1 :: l2 :: l3 :: l4 :: l5 :: l6 :: l7 :: l8 :: l9 :: l10 :: l11 :: l12 :: l13 :: l14 :: l15 :: l16 :: l17 :: L) 17 (.ref x) = l0 :: l1 :: l2 :: l3 :: l4 :: l5 :: l6 :: l7 :: l8 :: l9 :: l10 :: l11 :: l12 :: l13 :: l14 :: l15 :: l16 :: .ref x :: L := by simp only [am_st1, am_cl_id hcat]
  rw [← e] at h
  exact w_astore _ _ _ _ _ _ hd hn h
theorem tr_astore_17L {X : Nat × (Nat → Int32)} {d : Nat} {k : am_K} {Q : Option Value → am_M → Prop} {pc : Nat} {L S : List Value} {μ : am_M} {l0 l1 l2 l3 l4 l5 l6 l7 l8 l9 l10 l11 l12 l13 l14 l15 l17 : Value} {z : Int64} {x : Nat} (hd : decode k.2.1 pc = .ok (.astore 17, 2)) (hn : 17 < k.2.2.1) (h : tw X d k Q (pc + 2) (l0 :: l1 :: l2 :: l3 :: l4 :: l5 :: l6 :: l7 :: l8 :: l9 :: l10 :: l11 :: l12 :: l13 :: l14 :: l15 :: .float 0 :: .ref x :: L) S μ) : tw X d k Q pc (l0 :: l1 :: l2 :: l3 :: l4 :: l5 :: l6 :: l7 :: l8 :: l9 :: l10 :: l11 :: l12 :: l13 :: l14 :: l15 :: .long z :: l17 :: L) (.ref x :: S) μ := by
  have e : am_st1 (l0 :: l1 :: l2 :: l3 :: l4 :: l5 :: l6 :: l7 :: l8 :: l9 :: l10 :: l11 :: l12 :: l13 :: l14 :: l15 :: .long z :: l17 :: L) 17 (.ref x) = l0 :: l1 :: l2 :: l3 :: l4 :: l5 :: l6 :: l7 :: l8 :: l9 :: l10 :: l11 :: l12 :: l13 :: l14 :: l15 :: .float 0 :: .ref x :: L := by simp only [am_st1, am_cl]
  rw [← e] at h
  exact w_astore _ _ _ _ _ _ hd hn h
theorem tr_lstore_17 {X : Nat × (Nat → Int32)} {d : Nat} {k : am_K} {Q : Option Value → am_M → Prop} {pc : Nat} {L S : List Value} {μ : am_M} {l0 l1 l2 l3 l4 l5 l6 l7 l8 l9 l10 l11 l12 l13 l14 l15 l16 l17 m1 : Value} {x : Int64} (hd : decode k.2.1 pc = .ok (.lstore 17, 2)) (hn : 17 + 1 < k.2.2.1) (hcat : l16.category = 1) (h : tw X d k Q (pc + 2) (l0 :: l1 :: l2 :: l3 :: l4 :: l5 :: l6 :: l7 :: l8 :: l9 :: l10 :: l11 :: l12 :: l13 :: l14 :: l15 :: l16 :: .long x :: .float 0 :: L) S μ) : tw X d k Q pc (l0 :: l1 :: l2 :: l3 :: l4 :: l5 :: l6 :: l7 :: l8 :: l9 :: l10 :: l11 :: l12 :: l13 :: l14 :: l15 :: l16 :: l17 :: m1 :: L) (.long x :: S) μ := by
  have e : am_st2 (l0 :: l1 :: l2 :: l3 :: l4 :: l5 :: l6 :: l7 :: l8 :: l9 :: l10 :: l11 :: l12 :: l13 :: l14 :: l15 :: l16 :: l17 :: m1 :: L) 17 (.long x) = l0 :: l1 :: l2 :: l3 :: l4 :: l5 :: l6 :: l7 :: l8 :: l9 :: l10 :: l11 :: l12 :: l13 :: l14 :: l15 :: l16 :: .long x :: .float 0 :: L := by simp only [am_st2, am_cl_id hcat]
  rw [← e] at h
  exact w_lstore _ _ _ _ _ _ hd hn h
theorem tr_lstore_17L {X : Nat × (Nat → Int32)} {d : Nat} {k : am_K} {Q : Option Value → am_M → Prop} {pc : Nat} {L S : List Value} {μ : am_M} {l0 l1 l2 l3 l4 l5 l6 l7 l8 l9 l10 l11 l12 l13 l14 l15 l17 m1 : Value} {z : Int64} {x : Int64} (hd : decode k.2.1 pc = .ok (.lstore 17, 2)) (hn : 17 + 1 < k.2.2.1) (h : tw X d k Q (pc + 2) (l0 :: l1 :: l2 :: l3 :: l4 :: l5 :: l6 :: l7 :: l8 :: l9 :: l10 :: l11 :: l12 :: l13 :: l14 :: l15 :: .float 0 :: .long x :: .float 0 :: L) S μ) : tw X d k Q pc (l0 :: l1 :: l2 :: l3 :: l4 :: l5 :: l6 :: l7 :: l8 :: l9 :: l10 :: l11 :: l12 :: l13 :: l14 :: l15 :: .long z :: l17 :: m1 :: L) (.long x :: S) μ := by
  have e : am_st2 (l0 :: l1 :: l2 :: l3 :: l4 :: l5 :: l6 :: l7 :: l8 :: l9 :: l10 :: l11 :: l12 :: l13 :: l14 :: l15 :: .long z :: l17 :: m1 :: L) 17 (.long x) = l0 :: l1 :: l2 :: l3 :: l4 :: l5 :: l6 :: l7 :: l8 :: l9 :: l10 :: l11 :: l12 :: l13 :: l14 :: l15 :: .float 0 :: .long x :: .float 0 :: L := by simp only [am_st2, am_cl]
  rw [← e] at h
  exact w_lstore _ _ _ _ _ _ hd hn h
theorem tr_iinc_17 {X : Nat × (Nat → Int32)} {d : Nat} {k : am_K} {Q : Option Value → am_M → Prop} {pc : Nat} {L S : List Value} {μ : am_M} {l0 l1 l2 l3 l4 l5 l6 l7 l8 l9 l10 l11 l12 l13 l14 l15 l16 : Value} {x : Int32} (hd : decode k.2.1 pc = .ok (.iinc 17 1, 3)) (hn : 17 < k.2.2.1) (hcat : l16.category = 1) (h : tw X d k Q (pc + 3) (l0 :: l1 :: l2 :: l3 :: l4 :: l5 :: l6 :: l7 :: l8 :: l9 :: l10 :: l11 :: l12 :: l13 :: l14 :: l15 :: l16 :: .int (x + 1) :: L) S μ) : tw X d k Q pc (l0 :: l1 :: l2 :: l3 :: l4 :: l5 :: l6 :: l7 :: l8 :: l9 :: l10 :: l11 :: l12 :: l13 :: l14 :: l15 :: l16 :: .int x :: L) S μ := by
  have e : am_st1 (l0 :: l1 :: l2 :: l3 :: l4 :: l5 :: l6 :: l7 :: l8 :: l9 :: l10 :: l11 :: l12 :: l13 :: l14 :: l15 :: l16 :: .int x :: L) 17 (.int (x + 1)) = l0 :: l1 :: l2 :: l3 :: l4 :: l5 :: l6 :: l7 :: l8 :: l9 :: l10 :: l11 :: l12 :: l13 :: l14 :: l15 :: l16 :: .int (x + 1) :: L := by simp only [am_st1, am_cl_id hcat]
  rw [← e] at h
  exact w_iinc _ _ _ _ _ _ x _ hd rfl rfl hn h
theorem tr_iincm_17 {X : Nat × (Nat → Int32)} {d : Nat} {k : am_K} {Q : Option Value → am_M → Prop} {pc : Nat} {L S : List Value} {μ : am_M} {l0 l1 l2 l3 l4 l5 l6 l7 l8 l9 l10 l11 l12 l13 l14 l15 l16 : Value} {x : Int32} (hd : decode k.2.1 pc = .ok (.iinc 17 (-1), 3)) (hn : 17 < k.2.2.1) (hcat : l16.category = 1) (h : tw X d k Q (pc + 3) (l0 :: l1 :: l2 :: l3 :: l4 :: l5 :: l6 :: l7 :: l8 :: l9 :: l10 :: l11 :: l12 :: l13 :: l14 :: l15 :: l16 :: .int (x - 1) :: L) S μ) : tw X d k Q pc (l0 :: l1 :: l2 :: l3 :: l4 :: l5 :: l6 :: l7 :: l8 :: l9 :: l10 :: l11 :: l12 :: l13 :: l14 :: l15 :: l16 :: .int x :: L) S μ := by
  have e : am_st1 (l0 :: l1 :: l2 :: l3 :: l4 :: l5 :: l6 :: l7 :: l8 :: l9 :: l10 :: l11 :: l12 :: l13 :: l14 :: l15 :: l16 :: .int x :: L) 17 (.int (x - 1)) = l0 :: l1 :: l2 :: l3 :: l4 :: l5 :: l6 :: l7 :: l8 :: l9 :: l10 :: l11 :: l12 :: l13 :: l14 :: l15 :: l16 :: .int (x - 1) :: L := by simp only [am_st1, am_cl_id hcat]
  rw [← e] at h
  exact w_iinc _ _ _ _ _ _ x _ hd rfl (am_m1 x) hn h
section TT
variable {X : Nat × (Nat → Int32)} {d : Nat} {k : am_K} {Q : Option Value → am_M → Prop} {pc : Nat} {L S : List Value} {μ : am_M}
theorem tr_at {a : Nat} (ha : am_in a) : ∃ b, a = b + 2 ∧ b + 2 < 117 := ⟨a - 2, by have := ha.1; omega, by have := ha.1; have := ha.2; omega⟩
theorem tr_getI {idx ci j a n : Nat} {cs : List Nat} {v : Int32} (hd : decode k.2.1 pc = .ok (.getfield idx, 3)) (hok : am_okF k.1.cls idx ci j) (ha : am_in a) (hs : shp a = (ci + 8, n, cs)) (hj : cs[j]? = some 0) (hv : μ.1 a j = v) (h : tw X d k Q (pc + 3) L (.int v :: S) μ) : tw X d k Q pc L (.ref a :: S) μ := by
  obtain ⟨b, rfl, hb⟩ := tr_at ha
  subst hv
  refine w_getf _ _ _ _ _ ci j b (am_fo μ (b + 2) 0 cs) _ hd hok (by rw [hp_get hb, hs]; rfl) ?_ h
  have := (am_fo_get (μ := μ) (a := b + 2) cs 0 j).1 hj
  rw [Nat.zero_add] at this
  exact this
theorem tr_getJ {idx ci j a n : Nat} {cs : List Nat} {v : Int64} (hd : decode k.2.1 pc = .ok (.getfield idx, 3)) (hok : am_okF k.1.cls idx ci j) (ha : am_in a) (hs : shp a = (ci + 8, n, cs)) (hj : cs[j]? = some 1) (hv : μ.2 a j = v) (h : tw X d k Q (pc + 3) L (.long v :: S) μ) : tw X d k Q pc L (.ref a :: S) μ := by
  obtain ⟨b, rfl, hb⟩ := tr_at ha
  subst hv
  refine w_getf _ _ _ _ _ ci j b (am_fo μ (b + 2) 0 cs) _ hd hok (by rw [hp_get hb, hs]; rfl) ?_ h
  have := (am_fo_get (μ := μ) (a := b + 2) cs 0 j).2.1 hj
  rw [Nat.zero_add] at this
  exact this
theorem tr_getR {idx ci j a n q : Nat} {cs : List Nat} (hd : decode k.2.1 pc = .ok (.getfield idx, 3)) (hok : am_okF k.1.cls idx ci j) (ha : am_in a) (hs : shp a = (ci + 8, n, cs)) (hj : cs[j]? = some q) (hq : 2 ≤ q) (h : tw X d k Q (pc + 3) L (.ref q :: S) μ) : tw X d k Q pc L (.ref a :: S) μ := by
  obtain ⟨b, rfl, hb⟩ := tr_at ha
  refine w_getf _ _ _ _ _ ci j b (am_fo μ (b + 2) 0 cs) _ hd hok (by rw [hp_get hb, hs]; rfl) ?_ h
  exact (am_fo_get (μ := μ) (a := b + 2) cs 0 j).2.2 q hj hq
theorem tr_putI {idx ci j a n : Nat} {cs : List Nat} {x : Int32} (hd : decode k.2.1 pc = .ok (.putfield idx, 3)) (hok : am_okP k.1.cls idx ci j .int) (ha : am_in a) (hs : shp a = (ci + 8, n, cs)) (hj : cs[j]? = some 0) (h : tw X d k Q (pc + 3) L S (sI μ a (upd (μ.1 a) j x))) : tw X d k Q pc L (.int x :: .ref a :: S) μ := by
  obtain ⟨b, rfl, hb⟩ := tr_at ha
  refine w_putI _ _ _ _ _ ci j b (am_fo μ (b + 2) 0 cs) x hd hok (by rw [hp_get hb, hs]; rfl) (by rw [am_fo_len]; exact (List.getElem?_eq_some_iff.mp hj).1) ?_
  have e := am_fo_set (μ := μ) (a := b + 2) (x := x) cs 0 j hj
  rw [Nat.zero_add] at e
  rw [hp_set (μ := μ) (μ' := sI μ (b + 2) (upd (μ.1 (b + 2)) j x)) hb (fun a h => (sI_ne μ _ h).symm) (fun a h => rfl) (by rw [hs, e]; rfl)]
  exact h
theorem tr_putJ {idx ci j a n : Nat} {cs : List Nat} {x : Int64} (hd : decode k.2.1 pc = .ok (.putfield idx, 3)) (hok : am_okP k.1.cls idx ci j .long) (ha : am_in a) (hs : shp a = (ci + 8, n, cs)) (hj : cs[j]? = some 1) (h : tw X d k Q (pc + 3) L S (sJ μ a (vp_updL (μ.2 a) j x))) : tw X d k Q pc L (.long x :: .ref a :: S) μ := by
  obtain ⟨b, rfl, hb⟩ := tr_at ha
  refine w_putJ _ _ _ _ _ ci j b (am_fo μ (b + 2) 0 cs) x hd hok (by rw [hp_get hb, hs]; rfl) (by rw [am_fo_len]; exact (List.getElem?_eq_some_iff.mp hj).1) ?_
  have e := am_fo_setJ (μ := μ) (a := b + 2) (x := x) cs 0 j hj
  rw [Nat.zero_add] at e
  rw [hp_set (μ := μ) (μ' := sJ μ (b + 2) (vp_updL (μ.2 (b + 2)) j x)) hb (fun a h => rfl) (fun a h => (sJ_ne μ _ h).symm) (by rw [hs, e]; rfl)]
  exact h
theorem tr_iald {a n j : Nat} {cs : List Nat} {i v : Int32} (hd : decode k.2.1 pc = .ok (.iaload, 1)) (ha : am_in a) (hs : shp a = (0, n, cs)) (hi : i = nI j) (hj : j < n) (hn : n < 3000) (hv : μ.1 a j = v) (h : tw X d k Q (pc + 1) L (.int v :: S) μ) : tw X d k Q pc L (.int i :: .ref a :: S) μ := by
  obtain ⟨b, rfl, hb⟩ := tr_at ha
  subst hi; subst hv
  refine w_iald _ _ _ _ b n (μ.1 (b + 2)) _ hd (by rw [hp_get hb, hs]; rfl) (vp_in_nI hj (by omega)) ?_
  rw [nI_clamp (by omega)]
  exact h
theorem tr_bald {a n j : Nat} {cs : List Nat} {i v : Int32} (hd : decode k.2.1 pc = .ok (.baload, 1)) (ha : am_in a) (hs : shp a = (1, n, cs)) (hi : i = nI j) (hj : j < n) (hn : n < 3000) (hv : μ.1 a j = v) (h : tw X d k Q (pc + 1) L (.int v :: S) μ) : tw X d k Q pc L (.int i :: .ref a :: S) μ := by
  obtain ⟨b, rfl, hb⟩ := tr_at ha
  subst hi; subst hv
  refine w_bald _ _ _ _ b n (μ.1 (b + 2)) _ hd (by rw [hp_get hb, hs]; rfl) (vp_in_nI hj (by omega)) ?_
  rw [nI_clamp (by omega)]
  exact h
theorem tr_lald {a n j : Nat} {cs : List Nat} {i : Int32} {v : Int64} (hd : decode k.2.1 pc = .ok (.laload, 1)) (ha : am_in a) (hs : shp a = (2, n, cs)) (hi : i = nI j) (hj : j < n) (hn : n < 3000) (hv : μ.2 a j = v) (h : tw X d k Q (pc + 1) L (.long v :: S) μ) : tw X d k Q pc L (.int i :: .ref a :: S) μ := by
  obtain ⟨b, rfl, hb⟩ := tr_at ha
  subst hi; subst hv
  refine w_lald _ _ _ _ b n (μ.2 (b + 2)) _ hd (by rw [hp_get hb, hs]; rfl) (vp_in_nI hj (by omega)) ?_
  rw [nI_clamp (by omega)]
  exact h
theorem tr_aald {a t n j q : Nat} {cs : List Nat} {i : Int32} (hd : decode k.2.1 pc = .ok (.aaload, 1)) (ha : am_in a) (hs : shp a = (t, n, cs)) (ht : 3 ≤ t ∧ t < 8) (hi : i = nI j) (hq : cs[j]? = some q) (hn : cs.length < 3000) (h : tw X d k Q (pc + 1) L (.ref q :: S) μ) : tw X d k Q pc L (.int i :: .ref a :: S) μ := by
  obtain ⟨b, rfl, hb⟩ := tr_at ha
  subst hi
  have hj : j < cs.length := (List.getElem?_eq_some_iff.mp hq).1
  refine w_aald _ _ _ _ b t cs.length q (fun i => cs[i]?) _ hd (by
    rw [hp_get hb, hs]
    obtain ⟨h3, h4⟩ := ht
    match t, h3, h4 with
    | 3, _, _ => rfl
    | 4, _, _ => rfl
    | 5, _, _ => rfl
    | 6, _, _ => rfl
    | 7, _, _ => rfl) ht (vp_in_nI hj (by omega)) (by rw [nI_clamp (by omega)]; exact hq) h
theorem tr_iast {a n j : Nat} {cs : List Nat} {i x : Int32} (hd : decode k.2.1 pc = .ok (.iastore, 1)) (ha : am_in a) (hs : shp a = (0, n, cs)) (hi : i = nI j) (hj : j < n) (hn : n < 3000) (h : tw X d k Q (pc + 1) L S (sI μ a (upd (μ.1 a) j x))) : tw X d k Q pc L (.int x :: .int i :: .ref a :: S) μ := by
  obtain ⟨b, rfl, hb⟩ := tr_at ha
  subst hi
  refine w_iast _ _ _ _ b n (μ.1 (b + 2)) _ x hd (by rw [hp_get hb, hs]; rfl) (vp_in_nI hj (by omega)) ?_
  rw [nI_clamp (by omega), hp_set (μ := μ) (μ' := sI μ (b + 2) (upd (μ.1 (b + 2)) j x)) hb (fun a h => (sI_ne μ _ h).symm) (fun a h => rfl) (by rw [hs]; show _ = (Sum.inl (0, (n, .inl ((sI μ (b + 2) _).1 (b + 2)))) : am_C); rw [sI_same])]
  exact h
theorem tr_bast {a n j : Nat} {cs : List Nat} {i x : Int32} (hd : decode k.2.1 pc = .ok (.bastore, 1)) (ha : am_in a) (hs : shp a = (1, n, cs)) (hi : i = nI j) (hj : j < n) (hn : n < 3000) (h : tw X d k Q (pc + 1) L S (sI μ a (upd (μ.1 a) j x.toInt8.toInt32))) : tw X d k Q pc L (.int x :: .int i :: .ref a :: S) μ := by
  obtain ⟨b, rfl, hb⟩ := tr_at ha
  subst hi
  refine w_bast _ _ _ _ b n (μ.1 (b + 2)) _ x hd (by rw [hp_get hb, hs]; rfl) (vp_in_nI hj (by omega)) ?_
  rw [nI_clamp (by omega), vp_nar_byte, hp_set (μ := μ) (μ' := sI μ (b + 2) (upd (μ.1 (b + 2)) j x.toInt8.toInt32)) hb (fun a h => (sI_ne μ _ h).symm) (fun a h => rfl) (by rw [hs]; show _ = (Sum.inl (1, (n, .inl ((sI μ (b + 2) _).1 (b + 2)))) : am_C); rw [sI_same])]
  exact h
theorem tr_last {a n j : Nat} {cs : List Nat} {i : Int32} {x : Int64} (hd : decode k.2.1 pc = .ok (.lastore, 1)) (ha : am_in a) (hs : shp a = (2, n, cs)) (hi : i = nI j) (hj : j < n) (hn : n < 3000) (h : tw X d k Q (pc + 1) L S (sJ μ a (vp_updL (μ.2 a) j x))) : tw X d k Q pc L (.long x :: .int i :: .ref a :: S) μ := by
  obtain ⟨b, rfl, hb⟩ := tr_at ha
  subst hi
  refine w_last _ _ _ _ b n (μ.2 (b + 2)) _ x hd (by rw [hp_get hb, hs]; rfl) (vp_in_nI hj (by omega)) ?_
  rw [nI_clamp (by omega), hp_set (μ := μ) (μ' := sJ μ (b + 2) (vp_updL (μ.2 (b + 2)) j x)) hb (fun a h => rfl) (fun a h => (sJ_ne μ _ h).symm) (by rw [hs]; show _ = (Sum.inl (2, (n, .inr (.inl ((sJ μ (b + 2) _).2 (b + 2))))) : am_C); rw [sJ_same])]
  exact h
theorem tr_alen {a t n : Nat} {cs : List Nat} (hd : decode k.2.1 pc = .ok (.arraylength, 1)) (ha : am_in a) (hs : shp a = (t, n, cs)) (ht : t < 3) (h : tw X d k Q (pc + 1) L (.int (nI n) :: S) μ) : tw X d k Q pc L (.ref a :: S) μ := by
  obtain ⟨b, rfl, hb⟩ := tr_at ha
  match t, ht with
  | 0, _ => exact w_alen _ _ _ _ b 0 (n, .inl (μ.1 (b + 2))) hd (by rw [hp_get hb, hs]; rfl) (by decide) h
  | 1, _ => exact w_alen _ _ _ _ b 1 (n, .inl (μ.1 (b + 2))) hd (by rw [hp_get hb, hs]; rfl) (by decide) h
  | 2, _ => exact w_alen _ _ _ _ b 2 (n, .inr (.inl (μ.2 (b + 2)))) hd (by rw [hp_get hb, hs]; rfl) (by decide) h
theorem tr_letld {j : Nat} {i : Int32} (hd : decode k.2.1 pc = .ok (.iaload, 1)) (hi : i = nI j) (hj : j < 6) (h : tw X d k Q (pc + 1) L (.int (am_let j) :: S) μ) : tw X d k Q pc L (.int i :: .ref 1 :: S) μ := by
  subst hi
  refine w_letld _ _ _ _ _ hd (vp_in_nI hj (by omega)) ?_
  rw [nI_clamp (by omega)]
  exact h
theorem tr_sald {j : Nat} {i : Int32} (hd : decode k.2.1 pc = .ok (.iaload, 1)) (hi : i = nI j) (hj : j < X.1) (hX : X.1 < 2 ^ 31) (h : tw X d k Q (pc + 1) L (.int (X.2 j) :: S) μ) : tw X d k Q pc L (.int i :: .ref 0 :: S) μ := by
  subst hi
  refine w_sald _ _ _ _ _ hd (vp_in_nI hj hX) ?_
  rw [nI_clamp (by omega)]
  exact h
theorem tr_slen (hd : decode k.2.1 pc = .ok (.arraylength, 1)) (h : tw X d k Q (pc + 1) L (.int (nI X.1) :: S) μ) : tw X d k Q pc L (.ref 0 :: S) μ := w_slen _ _ _ _ hd h
theorem tr_acopy {idx a0 a1 n0 n1 sp dp n : Nat} {c0 c1 : List Nat} {isp idp in_ : Int32} (hd : decode k.2.1 pc = .ok (.invokestatic idx, 3)) (hok : am_okA k.1.cls idx) (ha0 : am_in a0) (ha1 : am_in a1) (hs0 : shp a0 = (0, n0, c0)) (hs1 : shp a1 = (0, n1, c1)) (e1 : isp = nI sp) (e2 : idp = nI dp) (e3 : in_ = nI n) (h4 : sp + n ≤ n0) (h5 : dp + n ≤ n1) (hn0 : n0 < 3000) (hn1 : n1 < 3000) (hcat : am_cat S ≤ 8)
    (h : tw X d k Q (pc + 3) L S (sI μ a1 (va_cpy (μ.1 a0) (μ.1 a1) sp dp n))) : tw X d k Q pc L (.int in_ :: .int idp :: .ref a1 :: .int isp :: .ref a0 :: S) μ := by
  obtain ⟨b0, rfl, hb0⟩ := tr_at ha0
  obtain ⟨b1, rfl, hb1⟩ := tr_at ha1
  subst e1; subst e2; subst e3
  have k1 := nI_clamp (n := sp) (by omega)
  have k2 := nI_clamp (n := dp) (by omega)
  have k3 := nI_clamp (n := n) (by omega)
  refine w_acopy _ _ _ _ _ b0 b1 n0 n1 (μ.1 (b0 + 2)) (μ.1 (b1 + 2)) _ _ _ hd hok (by rw [hp_get hb0, hs0]; rfl) (by rw [hp_get hb1, hs1]; rfl) (nI_pos (by omega)) (nI_pos (by omega)) (nI_pos (by omega)) (by rw [k1, k3]; exact h4) (by rw [k2, k3]; exact h5) hcat ?_
  rw [k1, k2, k3, hp_set (μ := μ) (μ' := sI μ (b1 + 2) (va_cpy (μ.1 (b0 + 2)) (μ.1 (b1 + 2)) sp dp n)) hb1 (fun a h => (sI_ne μ _ h).symm) (fun a h => rfl) (by rw [hs1]; show _ = (Sum.inl (0, (n1, .inl ((sI μ (b1 + 2) _).1 (b1 + 2)))) : am_C); rw [sI_same])]
  exact h
theorem tr_callV {idx n ci a n2 : Nat} {y : am_K} {As S0 : List Value} {cs : List Nat} {Q1 : Option Value → am_M → Prop} (hd : decode k.2.1 pc = .ok (.invokevirtual idx, 3)) (hok : am_okV k.1.cls idx y n ci) (hn : As.length = n) (hS : S0 = As.reverse ++ .ref a :: S) (ha : am_in a) (hs : shp a = (ci + 8, n2, cs)) (hcat : am_cat S ≤ 8) (hc : cp X d y (.ref a :: As) μ Q1) (kk : ∀ r μ', Q1 r μ' → tw X d k Q (pc + 3) L (r.toList ++ S) μ') : tw X d k Q pc L S0 μ := by
  obtain ⟨b, rfl, hb⟩ := tr_at ha
  obtain ⟨r, μ', hc, hq⟩ := hc
  exact w_callV _ _ _ _ _ y n ci b As (am_fo μ (b + 2) 0 cs) r _ S0 hd hok hn hS (by rw [hp_get hb, hs]; rfl) hcat hc (kk r μ' hq)
theorem tr_callS {idx n : Nat} {y : am_K} {As S0 : List Value} {Q1 : Option Value → am_M → Prop} (hd : decode k.2.1 pc = .ok (.invokestatic idx, 3)) (hok : am_okS k.1.cls idx y n) (hn : As.length = n) (hS : S0 = As.reverse ++ S) (hcat : am_cat S ≤ 8) (hc : cp X d y As μ Q1) (kk : ∀ r μ', Q1 r μ' → tw X d k Q (pc + 3) L (r.toList ++ S) μ') : tw X d k Q pc L S0 μ := by
  obtain ⟨r, μ', hc, hq⟩ := hc
  exact w_callS _ _ _ _ _ y n As r _ S0 hd hok hn hS hcat hc (kk r μ' hq)
theorem tr_callSN {idx n : Nat} {y : am_K} {As S0 : List Value} {Q1 : Option Value → am_M → Prop} (hd : decode k.2.1 pc = .ok (.invokestatic idx, 3)) (hok : am_okSN k.1.cls idx y n) (hn : As.length = n) (hS : S0 = As.reverse ++ S) (hcat : am_cat S ≤ 8) (hc : cp X d y As μ Q1) (kk : ∀ r μ', Q1 r μ' → tw X d k Q (pc + 3) L (r.toList ++ S) μ') : tw X d k Q pc L S0 μ := by
  obtain ⟨r, μ', hc, hq⟩ := hc
  exact w_callSN _ _ _ _ _ y n As r _ S0 hd hok hn hS hcat hc (kk r μ' hq)
theorem tr_Vi {idx n ci a n2 : Nat} {y : am_K} {As S0 : List Value} {cs : List Nat} {Q1 : Int32 → am_M → Prop} (hd : decode k.2.1 pc = .ok (.invokevirtual idx, 3)) (hok : am_okV k.1.cls idx y n ci) (hn : As.length = n) (hS : S0 = As.reverse ++ .ref a :: S) (ha : am_in a) (hs : shp a = (ci + 8, n2, cs)) (hcat : am_cat S ≤ 8) (hc : cp X d y (.ref a :: As) μ (qi Q1)) (kk : ∀ v μ', Q1 v μ' → tw X d k Q (pc + 3) L (.int v :: S) μ') : tw X d k Q pc L S0 μ :=
  tr_callV hd hok hn hS ha hs hcat hc (fun r μ' ⟨v, e, h⟩ => by subst e; exact kk v μ' h)
theorem tr_Vl {idx n ci a n2 : Nat} {y : am_K} {As S0 : List Value} {cs : List Nat} {Q1 : Int64 → am_M → Prop} (hd : decode k.2.1 pc = .ok (.invokevirtual idx, 3)) (hok : am_okV k.1.cls idx y n ci) (hn : As.length = n) (hS : S0 = As.reverse ++ .ref a :: S) (ha : am_in a) (hs : shp a = (ci + 8, n2, cs)) (hcat : am_cat S ≤ 8) (hc : cp X d y (.ref a :: As) μ (ql Q1)) (kk : ∀ v μ', Q1 v μ' → tw X d k Q (pc + 3) L (.long v :: S) μ') : tw X d k Q pc L S0 μ :=
  tr_callV hd hok hn hS ha hs hcat hc (fun r μ' ⟨v, e, h⟩ => by subst e; exact kk v μ' h)
theorem tr_Vv {idx n ci a n2 : Nat} {y : am_K} {As S0 : List Value} {cs : List Nat} {Q1 : am_M → Prop} (hd : decode k.2.1 pc = .ok (.invokevirtual idx, 3)) (hok : am_okV k.1.cls idx y n ci) (hn : As.length = n) (hS : S0 = As.reverse ++ .ref a :: S) (ha : am_in a) (hs : shp a = (ci + 8, n2, cs)) (hcat : am_cat S ≤ 8) (hc : cp X d y (.ref a :: As) μ (qv Q1)) (kk : ∀ μ', Q1 μ' → tw X d k Q (pc + 3) L S μ') : tw X d k Q pc L S0 μ :=
  tr_callV hd hok hn hS ha hs hcat hc (fun r μ' ⟨e, h⟩ => by subst e; exact kk μ' h)
theorem tr_Si {idx n : Nat} {y : am_K} {As S0 : List Value} {Q1 : Int32 → am_M → Prop} (hd : decode k.2.1 pc = .ok (.invokestatic idx, 3)) (hok : am_okS k.1.cls idx y n) (hn : As.length = n) (hS : S0 = As.reverse ++ S) (hcat : am_cat S ≤ 8) (hc : cp X d y As μ (qi Q1)) (kk : ∀ v μ', Q1 v μ' → tw X d k Q (pc + 3) L (.int v :: S) μ') : tw X d k Q pc L S0 μ :=
  tr_callS hd hok hn hS hcat hc (fun r μ' ⟨v, e, h⟩ => by subst e; exact kk v μ' h)
theorem tr_Sl {idx n : Nat} {y : am_K} {As S0 : List Value} {Q1 : Int64 → am_M → Prop} (hd : decode k.2.1 pc = .ok (.invokestatic idx, 3)) (hok : am_okS k.1.cls idx y n) (hn : As.length = n) (hS : S0 = As.reverse ++ S) (hcat : am_cat S ≤ 8) (hc : cp X d y As μ (ql Q1)) (kk : ∀ v μ', Q1 v μ' → tw X d k Q (pc + 3) L (.long v :: S) μ') : tw X d k Q pc L S0 μ :=
  tr_callS hd hok hn hS hcat hc (fun r μ' ⟨v, e, h⟩ => by subst e; exact kk v μ' h)
theorem tr_Sv {idx n : Nat} {y : am_K} {As S0 : List Value} {Q1 : am_M → Prop} (hd : decode k.2.1 pc = .ok (.invokestatic idx, 3)) (hok : am_okS k.1.cls idx y n) (hn : As.length = n) (hS : S0 = As.reverse ++ S) (hcat : am_cat S ≤ 8) (hc : cp X d y As μ (qv Q1)) (kk : ∀ μ', Q1 μ' → tw X d k Q (pc + 3) L S μ') : tw X d k Q pc L S0 μ :=
  tr_callS hd hok hn hS hcat hc (fun r μ' ⟨e, h⟩ => by subst e; exact kk μ' h)
theorem tr_SNi {idx n : Nat} {y : am_K} {As S0 : List Value} {Q1 : Int32 → am_M → Prop} (hd : decode k.2.1 pc = .ok (.invokestatic idx, 3)) (hok : am_okSN k.1.cls idx y n) (hn : As.length = n) (hS : S0 = As.reverse ++ S) (hcat : am_cat S ≤ 8) (hc : cp X d y As μ (qi Q1)) (kk : ∀ v μ', Q1 v μ' → tw X d k Q (pc + 3) L (.int v :: S) μ') : tw X d k Q pc L S0 μ :=
  tr_callSN hd hok hn hS hcat hc (fun r μ' ⟨v, e, h⟩ => by subst e; exact kk v μ' h)
theorem tr_iret {v : Int32} {Q1 : Int32 → am_M → Prop} (hd : decode k.2.1 pc = .ok (.ireturn, 1)) (ho : am_okr k.2.2.2 (some (.int v))) (h : Q1 v μ) : tw X d k (qi Q1) pc L [.int v] μ :=
  w_ret (some (.int v)) (Or.inl ⟨v, rfl, hd⟩) ho ⟨μ, rfl, v, rfl, h⟩
theorem tr_lret {v : Int64} {Q1 : Int64 → am_M → Prop} (hd : decode k.2.1 pc = .ok (.lreturn, 1)) (ho : am_okr k.2.2.2 (some (.long v))) (h : Q1 v μ) : tw X d k (ql Q1) pc L [.long v] μ :=
  w_ret (some (.long v)) (Or.inr (Or.inl ⟨v, rfl, hd⟩)) ho ⟨μ, rfl, v, rfl, h⟩
theorem tr_vret {Q1 : am_M → Prop} (hd : decode k.2.1 pc = .ok (.return_, 1)) (ho : am_okr k.2.2.2 none) (h : Q1 μ) : tw X d k (qv Q1) pc L [] μ :=
  w_ret none (Or.inr (Or.inr ⟨rfl, hd⟩)) ho ⟨μ, rfl, rfl, h⟩
-- rules over numbers nI
theorem tr_iaddN {x y : Nat} (hd : decode k.2.1 pc = .ok (.iadd, 1)) (h : tw X d k Q (pc + 1) L (.int (nI (x + y)) :: S) μ) : tw X d k Q pc L (.int (nI y) :: .int (nI x) :: S) μ := tr_iadd hd (by rw [nI_add]; exact h)
theorem tr_imulN {x y : Nat} (hd : decode k.2.1 pc = .ok (.imul, 1)) (h : tw X d k Q (pc + 1) L (.int (nI (x * y)) :: S) μ) : tw X d k Q pc L (.int (nI y) :: .int (nI x) :: S) μ := tr_imul hd (by rw [pk_mul]; exact h)
theorem tr_isubN {x y : Nat} (hd : decode k.2.1 pc = .ok (.isub, 1)) (hxy : y ≤ x) (h : tw X d k Q (pc + 1) L (.int (nI (x - y)) :: S) μ) : tw X d k Q pc L (.int (nI y) :: .int (nI x) :: S) μ := tr_isub hd (by rw [pk_sub hxy]; exact h)
theorem tr_iremN {x y : Nat} (hd : decode k.2.1 pc = .ok (.irem, 1)) (hx : x < 2 ^ 31) (h0 : 0 < y) (hy : y < 2 ^ 31) (h : tw X d k Q (pc + 1) L (.int (nI (x % y)) :: S) μ) : tw X d k Q pc L (.int (nI y) :: .int (nI x) :: S) μ := tr_irem hd (nI_ne0 h0 hy) (by rw [pk_rem hx h0 hy]; exact h)
theorem tr_idivN {x y : Nat} (hd : decode k.2.1 pc = .ok (.idiv, 1)) (hx : x < 2 ^ 31) (h0 : 0 < y) (hy : y < 2 ^ 31) (h : tw X d k Q (pc + 1) L (.int (nI (x / y)) :: S) μ) : tw X d k Q pc L (.int (nI y) :: .int (nI x) :: S) μ := tr_idiv hd (nI_ne0 h0 hy) (by rw [pk_div hx h0 hy]; exact h)
theorem tr_ltN {x y : Nat} {off : Int} {tgt : Nat} (hd : decode k.2.1 pc = .ok (.if_icmp .lt off, 3)) (ht : (pc : Int) + off = (tgt : Int)) (hx : x < 2 ^ 31) (hy : y < 2 ^ 31) (hT : x < y → tw X d k Q tgt L S μ) (hF : y ≤ x → tw X d k Q (pc + 3) L S μ) : tw X d k Q pc L (.int (nI y) :: .int (nI x) :: S) μ := tr_icmp_lt hd ht (fun h => hT ((nI_ltI hx hy).mp h)) (fun h => hF (Nat.not_lt.mp (fun q => h ((nI_ltI hx hy).mpr q))))
theorem tr_geN {x y : Nat} {off : Int} {tgt : Nat} (hd : decode k.2.1 pc = .ok (.if_icmp .ge off, 3)) (ht : (pc : Int) + off = (tgt : Int)) (hx : x < 2 ^ 31) (hy : y < 2 ^ 31) (hT : y ≤ x → tw X d k Q tgt L S μ) (hF : x < y → tw X d k Q (pc + 3) L S μ) : tw X d k Q pc L (.int (nI y) :: .int (nI x) :: S) μ := tr_icmp_ge hd ht (fun h => hT ((nI_leI hy hx).mp h)) (fun h => hF (Nat.not_le.mp (fun q => h ((nI_leI hy hx).mpr q))))
theorem tr_gtN {x y : Nat} {off : Int} {tgt : Nat} (hd : decode k.2.1 pc = .ok (.if_icmp .gt off, 3)) (ht : (pc : Int) + off = (tgt : Int)) (hx : x < 2 ^ 31) (hy : y < 2 ^ 31) (hT : y < x → tw X d k Q tgt L S μ) (hF : x ≤ y → tw X d k Q (pc + 3) L S μ) : tw X d k Q pc L (.int (nI y) :: .int (nI x) :: S) μ := tr_icmp_gt hd ht (fun h => hT ((nI_ltI hy hx).mp h)) (fun h => hF (Nat.not_lt.mp (fun q => h ((nI_ltI hy hx).mpr q))))
theorem tr_leN {x y : Nat} {off : Int} {tgt : Nat} (hd : decode k.2.1 pc = .ok (.if_icmp .le off, 3)) (ht : (pc : Int) + off = (tgt : Int)) (hx : x < 2 ^ 31) (hy : y < 2 ^ 31) (hT : x ≤ y → tw X d k Q tgt L S μ) (hF : y < x → tw X d k Q (pc + 3) L S μ) : tw X d k Q pc L (.int (nI y) :: .int (nI x) :: S) μ := tr_icmp_le hd ht (fun h => hT ((nI_leI hx hy).mp h)) (fun h => hF (Nat.not_le.mp (fun q => h ((nI_leI hx hy).mpr q))))
theorem tr_eqN {x y : Nat} {off : Int} {tgt : Nat} (hd : decode k.2.1 pc = .ok (.if_icmp .eq off, 3)) (ht : (pc : Int) + off = (tgt : Int)) (hx : x < 2 ^ 31) (hy : y < 2 ^ 31) (hT : x = y → tw X d k Q tgt L S μ) (hF : x ≠ y → tw X d k Q (pc + 3) L S μ) : tw X d k Q pc L (.int (nI y) :: .int (nI x) :: S) μ := tr_icmp_eq hd ht (fun h => hT ((nI_eq hx hy).mp h)) (fun h => hF (fun q => h ((nI_eq hx hy).mpr q)))
theorem tr_neN {x y : Nat} {off : Int} {tgt : Nat} (hd : decode k.2.1 pc = .ok (.if_icmp .ne off, 3)) (ht : (pc : Int) + off = (tgt : Int)) (hx : x < 2 ^ 31) (hy : y < 2 ^ 31) (hT : x ≠ y → tw X d k Q tgt L S μ) (hF : x = y → tw X d k Q (pc + 3) L S μ) : tw X d k Q pc L (.int (nI y) :: .int (nI x) :: S) μ := tr_icmp_ne hd ht (fun h => hT (fun q => h ((nI_eq hx hy).mpr q))) (fun h => hF ((nI_eq hx hy).mp h))
theorem tr_if0N {x : Nat} {off : Int} {tgt : Nat} (hd : decode k.2.1 pc = .ok (.ifCond .eq off, 3)) (ht : (pc : Int) + off = (tgt : Int)) (hx : x < 2 ^ 31) (hT : x = 0 → tw X d k Q tgt L S μ) (hF : x ≠ 0 → tw X d k Q (pc + 3) L S μ) : tw X d k Q pc L (.int (nI x) :: S) μ := tr_if_eq hd ht (fun h => hT (Decidable.byContradiction fun q => nI_ne0 (Nat.pos_of_ne_zero q) hx h)) (fun h => hF (fun q => h (by rw [q]; rfl)))
theorem tr_ifnN {x : Nat} {off : Int} {tgt : Nat} (hd : decode k.2.1 pc = .ok (.ifCond .ne off, 3)) (ht : (pc : Int) + off = (tgt : Int)) (hx : x < 2 ^ 31) (hT : x ≠ 0 → tw X d k Q tgt L S μ) (hF : x = 0 → tw X d k Q (pc + 3) L S μ) : tw X d k Q pc L (.int (nI x) :: S) μ := tr_if_ne hd ht (fun h => hT (fun q => h (by rw [q]; rfl))) (fun h => hF (Decidable.byContradiction fun q => nI_ne0 (Nat.pos_of_ne_zero q) hx h))
end TT
