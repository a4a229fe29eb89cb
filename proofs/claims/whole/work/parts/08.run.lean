section RUN
variable {p : Program} {l : Launch} {e : Env} {R : Room} {s : State} {m : MethodId} {args : Array Value} {below : List Frame} {meth : Method} {c : Code} {Q : State → Prop} {G : am_G} {d : Nat} {k : am_K} {r : Option Value} {h0 h' : am_H} {Cr : am_R}
theorem am_sound (hc : am_X G d k h0 h' p R s m args meth c) (hC : am_CS l G d Cr) (hF : am_end p l e R s m args below meth c Q G h0 h' k r) {pc : Nat} {L S : List Value} {h : am_H} (hr : am_run (am_gN G, am_gx G) Cr k r h' pc L S h) : am_P p l e R s m args below meth c Q G h0 h' k.2.2.1 pc L S h := by
  refine hr _ (fun i => ?_)
  match i with
  | 0 => exact am_s_iconst hc
  | 1 => exact am_s_bipush hc
  | 2 => exact am_s_sipush hc
  | 3 => exact am_s_lconst hc
  | 4 => exact am_s_iload_n hc
  | 5 => exact am_s_iload hc
  | 6 => exact am_s_istore_n hc
  | 7 => exact am_s_istore hc
  | 8 => exact am_s_lload_n hc
  | 9 => exact am_s_lload hc
  | 10 => exact am_s_lstore_n hc
  | 11 => exact am_s_lstore hc
  | 12 => exact am_s_aload_n hc
  | 13 => exact am_s_aload hc
  | 14 => exact am_s_astore_n hc
  | 15 => exact am_s_astore hc
  | 16 => exact am_s_iinc hc
  | 17 => exact am_s_iadd hc
  | 18 => exact am_s_isub hc
  | 19 => exact am_s_imul hc
  | 20 => exact am_s_iand hc
  | 21 => exact am_s_ior hc
  | 22 => exact am_s_ixor hc
  | 23 => exact am_s_ishl hc
  | 24 => exact am_s_ishr hc
  | 25 => exact am_s_iushr hc
  | 26 => exact am_s_idiv hc
  | 27 => exact am_s_irem hc
  | 28 => exact am_s_ladd hc
  | 29 => exact am_s_lsub hc
  | 30 => exact am_s_lmul hc
  | 31 => exact am_s_ldiv hc
  | 32 => exact am_s_lrem hc
  | 33 => exact am_s_i2l hc
  | 34 => exact am_s_l2i hc
  | 35 => exact am_s_i2b hc
  | 36 => exact am_s_lcmp hc
  | 37 => exact am_s_dup hc
  | 38 => exact am_s_pop hc
  | 39 => exact am_s_dup2 hc
  | 40 => exact am_s_if_eq hc
  | 41 => exact am_s_icmp_eq hc
  | 42 => exact am_s_if_ne hc
  | 43 => exact am_s_icmp_ne hc
  | 44 => exact am_s_if_lt hc
  | 45 => exact am_s_icmp_lt hc
  | 46 => exact am_s_if_ge hc
  | 47 => exact am_s_icmp_ge hc
  | 48 => exact am_s_if_gt hc
  | 49 => exact am_s_icmp_gt hc
  | 50 => exact am_s_if_le hc
  | 51 => exact am_s_icmp_le hc
  | 52 => exact am_s_goto hc
  | 53 => exact am_s_tableIn hc
  | 54 => exact am_s_tableOut hc
  | 55 => exact am_s_ldc hc
  | 56 => exact am_s_ldc_w hc
  | 57 => exact am_s_ldc2 hc
  | 58 => exact am_s_getLet hc
  | 59 => exact am_s_getf hc
  | 60 => exact am_s_putI hc
  | 61 => exact am_s_putJ hc
  | 62 => exact am_s_putF hc
  | 63 => exact am_s_iald hc
  | 64 => exact am_s_sald hc
  | 65 => exact am_s_slen hc
  | 66 => exact am_s_letld hc
  | 67 => exact am_s_bald hc
  | 68 => exact am_s_lald hc
  | 69 => exact am_s_aald hc
  | 70 => exact am_s_iast hc
  | 71 => exact am_s_bast hc
  | 72 => exact am_s_last hc
  | 73 => exact am_s_aast hc
  | 74 => exact am_s_alen hc
  | 75 => exact am_s_new hc
  | 76 => exact am_s_newa hc
  | 77 => exact am_s_anew hc
  | 78 => exact am_s_objI hc
  | 79 => exact am_s_callV hc hC
  | 80 => exact am_s_callS hc hC
  | 81 => exact am_s_callSN hc hC
  | 82 => exact am_s_callI hc hC
  | 83 => exact am_s_callIN hc hC
  | 84 => exact am_s_acopy hc
  | 85 => exact am_s_ret hc hF
  | 86 => exact am_s_mna hc
  | n + 87 => exact trivial
end RUN
theorem am_m_iconst {k : am_K} {h' : am_H} : am_r_iconst  k (fun _ _ _ g => g.length ≤ h'.length ∧ am_sz g ≤ am_sz h') := by
  unfold am_r_iconst
  intros
  assumption
theorem am_m_bipush {k : am_K} {h' : am_H} : am_r_bipush  k (fun _ _ _ g => g.length ≤ h'.length ∧ am_sz g ≤ am_sz h') := by
  unfold am_r_bipush
  intros
  assumption
theorem am_m_sipush {k : am_K} {h' : am_H} : am_r_sipush  k (fun _ _ _ g => g.length ≤ h'.length ∧ am_sz g ≤ am_sz h') := by
  unfold am_r_sipush
  intros
  assumption
theorem am_m_lconst {k : am_K} {h' : am_H} : am_r_lconst  k (fun _ _ _ g => g.length ≤ h'.length ∧ am_sz g ≤ am_sz h') := by
  unfold am_r_lconst
  intros
  assumption
theorem am_m_iload_n {k : am_K} {h' : am_H} : am_r_iload_n  k (fun _ _ _ g => g.length ≤ h'.length ∧ am_sz g ≤ am_sz h') := by
  unfold am_r_iload_n
  intros
  assumption
theorem am_m_iload {k : am_K} {h' : am_H} : am_r_iload  k (fun _ _ _ g => g.length ≤ h'.length ∧ am_sz g ≤ am_sz h') := by
  unfold am_r_iload
  intros
  assumption
theorem am_m_istore_n {k : am_K} {h' : am_H} : am_r_istore_n  k (fun _ _ _ g => g.length ≤ h'.length ∧ am_sz g ≤ am_sz h') := by
  unfold am_r_istore_n
  intros
  assumption
theorem am_m_istore {k : am_K} {h' : am_H} : am_r_istore  k (fun _ _ _ g => g.length ≤ h'.length ∧ am_sz g ≤ am_sz h') := by
  unfold am_r_istore
  intros
  assumption
theorem am_m_lload_n {k : am_K} {h' : am_H} : am_r_lload_n  k (fun _ _ _ g => g.length ≤ h'.length ∧ am_sz g ≤ am_sz h') := by
  unfold am_r_lload_n
  intros
  assumption
theorem am_m_lload {k : am_K} {h' : am_H} : am_r_lload  k (fun _ _ _ g => g.length ≤ h'.length ∧ am_sz g ≤ am_sz h') := by
  unfold am_r_lload
  intros
  assumption
theorem am_m_lstore_n {k : am_K} {h' : am_H} : am_r_lstore_n  k (fun _ _ _ g => g.length ≤ h'.length ∧ am_sz g ≤ am_sz h') := by
  unfold am_r_lstore_n
  intros
  assumption
theorem am_m_lstore {k : am_K} {h' : am_H} : am_r_lstore  k (fun _ _ _ g => g.length ≤ h'.length ∧ am_sz g ≤ am_sz h') := by
  unfold am_r_lstore
  intros
  assumption
theorem am_m_aload_n {k : am_K} {h' : am_H} : am_r_aload_n  k (fun _ _ _ g => g.length ≤ h'.length ∧ am_sz g ≤ am_sz h') := by
  unfold am_r_aload_n
  intros
  assumption
theorem am_m_aload {k : am_K} {h' : am_H} : am_r_aload  k (fun _ _ _ g => g.length ≤ h'.length ∧ am_sz g ≤ am_sz h') := by
  unfold am_r_aload
  intros
  assumption
theorem am_m_astore_n {k : am_K} {h' : am_H} : am_r_astore_n  k (fun _ _ _ g => g.length ≤ h'.length ∧ am_sz g ≤ am_sz h') := by
  unfold am_r_astore_n
  intros
  assumption
theorem am_m_astore {k : am_K} {h' : am_H} : am_r_astore  k (fun _ _ _ g => g.length ≤ h'.length ∧ am_sz g ≤ am_sz h') := by
  unfold am_r_astore
  intros
  assumption
theorem am_m_iinc {k : am_K} {h' : am_H} : am_r_iinc  k (fun _ _ _ g => g.length ≤ h'.length ∧ am_sz g ≤ am_sz h') := by
  unfold am_r_iinc
  intros
  assumption
theorem am_m_iadd {k : am_K} {h' : am_H} : am_r_iadd  k (fun _ _ _ g => g.length ≤ h'.length ∧ am_sz g ≤ am_sz h') := by
  unfold am_r_iadd
  intros
  assumption
theorem am_m_isub {k : am_K} {h' : am_H} : am_r_isub  k (fun _ _ _ g => g.length ≤ h'.length ∧ am_sz g ≤ am_sz h') := by
  unfold am_r_isub
  intros
  assumption
theorem am_m_imul {k : am_K} {h' : am_H} : am_r_imul  k (fun _ _ _ g => g.length ≤ h'.length ∧ am_sz g ≤ am_sz h') := by
  unfold am_r_imul
  intros
  assumption
theorem am_m_iand {k : am_K} {h' : am_H} : am_r_iand  k (fun _ _ _ g => g.length ≤ h'.length ∧ am_sz g ≤ am_sz h') := by
  unfold am_r_iand
  intros
  assumption
theorem am_m_ior {k : am_K} {h' : am_H} : am_r_ior  k (fun _ _ _ g => g.length ≤ h'.length ∧ am_sz g ≤ am_sz h') := by
  unfold am_r_ior
  intros
  assumption
theorem am_m_ixor {k : am_K} {h' : am_H} : am_r_ixor  k (fun _ _ _ g => g.length ≤ h'.length ∧ am_sz g ≤ am_sz h') := by
  unfold am_r_ixor
  intros
  assumption
theorem am_m_ishl {k : am_K} {h' : am_H} : am_r_ishl  k (fun _ _ _ g => g.length ≤ h'.length ∧ am_sz g ≤ am_sz h') := by
  unfold am_r_ishl
  intros
  assumption
theorem am_m_ishr {k : am_K} {h' : am_H} : am_r_ishr  k (fun _ _ _ g => g.length ≤ h'.length ∧ am_sz g ≤ am_sz h') := by
  unfold am_r_ishr
  intros
  assumption
theorem am_m_iushr {k : am_K} {h' : am_H} : am_r_iushr  k (fun _ _ _ g => g.length ≤ h'.length ∧ am_sz g ≤ am_sz h') := by
  unfold am_r_iushr
  intros
  assumption
theorem am_m_idiv {k : am_K} {h' : am_H} : am_r_idiv  k (fun _ _ _ g => g.length ≤ h'.length ∧ am_sz g ≤ am_sz h') := by
  unfold am_r_idiv
  intros
  assumption
theorem am_m_irem {k : am_K} {h' : am_H} : am_r_irem  k (fun _ _ _ g => g.length ≤ h'.length ∧ am_sz g ≤ am_sz h') := by
  unfold am_r_irem
  intros
  assumption
theorem am_m_ladd {k : am_K} {h' : am_H} : am_r_ladd  k (fun _ _ _ g => g.length ≤ h'.length ∧ am_sz g ≤ am_sz h') := by
  unfold am_r_ladd
  intros
  assumption
theorem am_m_lsub {k : am_K} {h' : am_H} : am_r_lsub  k (fun _ _ _ g => g.length ≤ h'.length ∧ am_sz g ≤ am_sz h') := by
  unfold am_r_lsub
  intros
  assumption
theorem am_m_lmul {k : am_K} {h' : am_H} : am_r_lmul  k (fun _ _ _ g => g.length ≤ h'.length ∧ am_sz g ≤ am_sz h') := by
  unfold am_r_lmul
  intros
  assumption
theorem am_m_ldiv {k : am_K} {h' : am_H} : am_r_ldiv  k (fun _ _ _ g => g.length ≤ h'.length ∧ am_sz g ≤ am_sz h') := by
  unfold am_r_ldiv
  intros
  assumption
theorem am_m_lrem {k : am_K} {h' : am_H} : am_r_lrem  k (fun _ _ _ g => g.length ≤ h'.length ∧ am_sz g ≤ am_sz h') := by
  unfold am_r_lrem
  intros
  assumption
theorem am_m_i2l {k : am_K} {h' : am_H} : am_r_i2l  k (fun _ _ _ g => g.length ≤ h'.length ∧ am_sz g ≤ am_sz h') := by
  unfold am_r_i2l
  intros
  assumption
theorem am_m_l2i {k : am_K} {h' : am_H} : am_r_l2i  k (fun _ _ _ g => g.length ≤ h'.length ∧ am_sz g ≤ am_sz h') := by
  unfold am_r_l2i
  intros
  assumption
theorem am_m_i2b {k : am_K} {h' : am_H} : am_r_i2b  k (fun _ _ _ g => g.length ≤ h'.length ∧ am_sz g ≤ am_sz h') := by
  unfold am_r_i2b
  intros
  assumption
theorem am_m_lcmp {k : am_K} {h' : am_H} : am_r_lcmp  k (fun _ _ _ g => g.length ≤ h'.length ∧ am_sz g ≤ am_sz h') := by
  unfold am_r_lcmp
  intros
  assumption
theorem am_m_dup {k : am_K} {h' : am_H} : am_r_dup  k (fun _ _ _ g => g.length ≤ h'.length ∧ am_sz g ≤ am_sz h') := by
  unfold am_r_dup
  intros
  assumption
theorem am_m_pop {k : am_K} {h' : am_H} : am_r_pop  k (fun _ _ _ g => g.length ≤ h'.length ∧ am_sz g ≤ am_sz h') := by
  unfold am_r_pop
  intros
  assumption
theorem am_m_dup2 {k : am_K} {h' : am_H} : am_r_dup2  k (fun _ _ _ g => g.length ≤ h'.length ∧ am_sz g ≤ am_sz h') := by
  unfold am_r_dup2
  intros
  assumption
theorem am_m_if_eq {k : am_K} {h' : am_H} : am_r_if_eq  k (fun _ _ _ g => g.length ≤ h'.length ∧ am_sz g ≤ am_sz h') := by
  intro pc L S h x off tgt hd ht hT hF
  by_cases q : x = 0
  · exact hT q
  · exact hF q
theorem am_m_icmp_eq {k : am_K} {h' : am_H} : am_r_icmp_eq  k (fun _ _ _ g => g.length ≤ h'.length ∧ am_sz g ≤ am_sz h') := by
  intro pc L S h x y off tgt hd ht hT hF
  by_cases q : x = y
  · exact hT q
  · exact hF q
theorem am_m_if_ne {k : am_K} {h' : am_H} : am_r_if_ne  k (fun _ _ _ g => g.length ≤ h'.length ∧ am_sz g ≤ am_sz h') := by
  intro pc L S h x off tgt hd ht hT hF
  by_cases q : x = 0
  · exact hF q
  · exact hT q
theorem am_m_icmp_ne {k : am_K} {h' : am_H} : am_r_icmp_ne  k (fun _ _ _ g => g.length ≤ h'.length ∧ am_sz g ≤ am_sz h') := by
  intro pc L S h x y off tgt hd ht hT hF
  by_cases q : x = y
  · exact hF q
  · exact hT q
theorem am_m_if_lt {k : am_K} {h' : am_H} : am_r_if_lt  k (fun _ _ _ g => g.length ≤ h'.length ∧ am_sz g ≤ am_sz h') := by
  intro pc L S h x off tgt hd ht hT hF
  by_cases q : x < 0
  · exact hT q
  · exact hF q
theorem am_m_icmp_lt {k : am_K} {h' : am_H} : am_r_icmp_lt  k (fun _ _ _ g => g.length ≤ h'.length ∧ am_sz g ≤ am_sz h') := by
  intro pc L S h x y off tgt hd ht hT hF
  by_cases q : x < y
  · exact hT q
  · exact hF q
theorem am_m_if_ge {k : am_K} {h' : am_H} : am_r_if_ge  k (fun _ _ _ g => g.length ≤ h'.length ∧ am_sz g ≤ am_sz h') := by
  intro pc L S h x off tgt hd ht hT hF
  by_cases q : 0 ≤ x
  · exact hT q
  · exact hF q
theorem am_m_icmp_ge {k : am_K} {h' : am_H} : am_r_icmp_ge  k (fun _ _ _ g => g.length ≤ h'.length ∧ am_sz g ≤ am_sz h') := by
  intro pc L S h x y off tgt hd ht hT hF
  by_cases q : y ≤ x
  · exact hT q
  · exact hF q
theorem am_m_if_gt {k : am_K} {h' : am_H} : am_r_if_gt  k (fun _ _ _ g => g.length ≤ h'.length ∧ am_sz g ≤ am_sz h') := by
  intro pc L S h x off tgt hd ht hT hF
  by_cases q : 0 < x
  · exact hT q
  · exact hF q
theorem am_m_icmp_gt {k : am_K} {h' : am_H} : am_r_icmp_gt  k (fun _ _ _ g => g.length ≤ h'.length ∧ am_sz g ≤ am_sz h') := by
  intro pc L S h x y off tgt hd ht hT hF
  by_cases q : y < x
  · exact hT q
  · exact hF q
theorem am_m_if_le {k : am_K} {h' : am_H} : am_r_if_le  k (fun _ _ _ g => g.length ≤ h'.length ∧ am_sz g ≤ am_sz h') := by
  intro pc L S h x off tgt hd ht hT hF
  by_cases q : x ≤ 0
  · exact hT q
  · exact hF q
theorem am_m_icmp_le {k : am_K} {h' : am_H} : am_r_icmp_le  k (fun _ _ _ g => g.length ≤ h'.length ∧ am_sz g ≤ am_sz h') := by
  intro pc L S h x y off tgt hd ht hT hF
  by_cases q : x ≤ y
  · exact hT q
  · exact hF q
theorem am_m_goto {k : am_K} {h' : am_H} : am_r_goto  k (fun _ _ _ g => g.length ≤ h'.length ∧ am_sz g ≤ am_sz h') := by
  unfold am_r_goto
  intros
  assumption
theorem am_m_tableIn {k : am_K} {h' : am_H} : am_r_tableIn  k (fun _ _ _ g => g.length ≤ h'.length ∧ am_sz g ≤ am_sz h') := by
  unfold am_r_tableIn
  intros
  assumption
theorem am_m_tableOut {k : am_K} {h' : am_H} : am_r_tableOut  k (fun _ _ _ g => g.length ≤ h'.length ∧ am_sz g ≤ am_sz h') := by
  unfold am_r_tableOut
  intros
  assumption
theorem am_m_ldc {k : am_K} {h' : am_H} : am_r_ldc  k (fun _ _ _ g => g.length ≤ h'.length ∧ am_sz g ≤ am_sz h') := by
  unfold am_r_ldc
  intros
  assumption
theorem am_m_ldc_w {k : am_K} {h' : am_H} : am_r_ldc_w  k (fun _ _ _ g => g.length ≤ h'.length ∧ am_sz g ≤ am_sz h') := by
  unfold am_r_ldc_w
  intros
  assumption
theorem am_m_ldc2 {k : am_K} {h' : am_H} : am_r_ldc2  k (fun _ _ _ g => g.length ≤ h'.length ∧ am_sz g ≤ am_sz h') := by
  unfold am_r_ldc2
  intros
  assumption
theorem am_m_getLet {k : am_K} {h' : am_H} : am_r_getLet  k (fun _ _ _ g => g.length ≤ h'.length ∧ am_sz g ≤ am_sz h') := by
  unfold am_r_getLet
  intros
  assumption
theorem am_m_getf {k : am_K} {h' : am_H} : am_r_getf  k (fun _ _ _ g => g.length ≤ h'.length ∧ am_sz g ≤ am_sz h') := by
  unfold am_r_getf
  intros
  assumption
theorem am_m_putI {k : am_K} {h' : am_H} : am_r_putI  k (fun _ _ _ g => g.length ≤ h'.length ∧ am_sz g ≤ am_sz h') := by
  intro pc L S h idx ci j a fs x hd hok hk hl hP
  rw [List.length_set, am_sz_set _ _ _ _ hk (by simp [am_sc])] at hP
  exact hP
theorem am_m_putJ {k : am_K} {h' : am_H} : am_r_putJ  k (fun _ _ _ g => g.length ≤ h'.length ∧ am_sz g ≤ am_sz h') := by
  intro pc L S h idx ci j a fs x hd hok hk hl hP
  rw [List.length_set, am_sz_set _ _ _ _ hk (by simp [am_sc])] at hP
  exact hP
theorem am_m_putF {k : am_K} {h' : am_H} : am_r_putF  k (fun _ _ _ g => g.length ≤ h'.length ∧ am_sz g ≤ am_sz h') := by
  intro pc L S h idx ci j a ft fs v hd hok hin hk hl h1 h2 hP
  rw [List.length_set, am_sz_set _ _ _ _ hk (by simp [am_sc])] at hP
  exact hP
theorem am_m_iald {k : am_K} {h' : am_H} : am_r_iald  k (fun _ _ _ g => g.length ≤ h'.length ∧ am_sz g ≤ am_sz h') := by
  unfold am_r_iald
  intros
  assumption
theorem am_m_sald {X : Nat × (Nat → Int32)} {k : am_K} {h' : am_H} : am_r_sald X k (fun _ _ _ g => g.length ≤ h'.length ∧ am_sz g ≤ am_sz h') := by
  unfold am_r_sald
  intros
  assumption
theorem am_m_slen {X : Nat × (Nat → Int32)} {k : am_K} {h' : am_H} : am_r_slen X k (fun _ _ _ g => g.length ≤ h'.length ∧ am_sz g ≤ am_sz h') := by
  unfold am_r_slen
  intros
  assumption
theorem am_m_letld {k : am_K} {h' : am_H} : am_r_letld  k (fun _ _ _ g => g.length ≤ h'.length ∧ am_sz g ≤ am_sz h') := by
  unfold am_r_letld
  intros
  assumption
theorem am_m_bald {k : am_K} {h' : am_H} : am_r_bald  k (fun _ _ _ g => g.length ≤ h'.length ∧ am_sz g ≤ am_sz h') := by
  unfold am_r_bald
  intros
  assumption
theorem am_m_lald {k : am_K} {h' : am_H} : am_r_lald  k (fun _ _ _ g => g.length ≤ h'.length ∧ am_sz g ≤ am_sz h') := by
  unfold am_r_lald
  intros
  assumption
theorem am_m_aald {k : am_K} {h' : am_H} : am_r_aald  k (fun _ _ _ g => g.length ≤ h'.length ∧ am_sz g ≤ am_sz h') := by
  unfold am_r_aald
  intros
  assumption
theorem am_m_iast {k : am_K} {h' : am_H} : am_r_iast  k (fun _ _ _ g => g.length ≤ h'.length ∧ am_sz g ≤ am_sz h') := by
  intro pc L S h a n f i x hd hk hi hP
  rw [List.length_set, am_sz_set _ _ _ _ hk (by simp [am_sc])] at hP
  exact hP
theorem am_m_bast {k : am_K} {h' : am_H} : am_r_bast  k (fun _ _ _ g => g.length ≤ h'.length ∧ am_sz g ≤ am_sz h') := by
  intro pc L S h a n f i x hd hk hi hP
  rw [List.length_set, am_sz_set _ _ _ _ hk (by simp [am_sc])] at hP
  exact hP
theorem am_m_last {k : am_K} {h' : am_H} : am_r_last  k (fun _ _ _ g => g.length ≤ h'.length ∧ am_sz g ≤ am_sz h') := by
  intro pc L S h a n f i x hd hk hi hP
  rw [List.length_set, am_sz_set _ _ _ _ hk (by simp [am_sc])] at hP
  exact hP
theorem am_m_aast {k : am_K} {h' : am_H} : am_r_aast  k (fun _ _ _ g => g.length ≤ h'.length ∧ am_sz g ≤ am_sz h') := by
  intro pc L S h a t n b ci vs f i hd hk ht hb hcl hin hP
  rw [List.length_set, am_sz_set _ _ _ _ hk (by simp [am_sc])] at hP
  exact hP
theorem am_m_alen {k : am_K} {h' : am_H} : am_r_alen  k (fun _ _ _ g => g.length ≤ h'.length ∧ am_sz g ≤ am_sz h') := by
  unfold am_r_alen
  intros
  assumption
theorem am_m_new {k : am_K} {h' : am_H} : am_r_new  k (fun _ _ _ g => g.length ≤ h'.length ∧ am_sz g ≤ am_sz h') := by
  intro pc L S h idx ci fs hd hok hP
  rw [List.length_append, am_sz_app] at hP
  exact ⟨by omega, by omega⟩
theorem am_m_newa {k : am_K} {h' : am_H} : am_r_newa  k (fun _ _ _ g => g.length ≤ h'.length ∧ am_sz g ≤ am_sz h') := by
  intro pc L S h at_ t N x0 n hd h1 h2 h3 h4 h5 h6 h7 hP
  rw [List.length_append, am_sz_app] at hP
  exact ⟨by omega, by omega⟩
theorem am_m_anew {k : am_K} {h' : am_H} : am_r_anew  k (fun _ _ _ g => g.length ≤ h'.length ∧ am_sz g ≤ am_sz h') := by
  intro pc L S h idx t N C n hd h1 h2 h3 h4 h5 h6 hP
  rw [List.length_append, am_sz_app] at hP
  exact ⟨by omega, by omega⟩
theorem am_m_objI {k : am_K} {h' : am_H} : am_r_objI  k (fun _ _ _ g => g.length ≤ h'.length ∧ am_sz g ≤ am_sz h') := by
  unfold am_r_objI
  intros
  assumption
theorem am_m_callV {l : Launch} {G : am_G} {d : Nat} {Cr : am_R} (hC : am_CS l G d Cr) {k : am_K} {h' : am_H} : am_r_callV Cr k (fun _ _ _ g => g.length ≤ h'.length ∧ am_sz g ≤ am_sz h') := by
  intro pc L S h idx y n ci a As fs r1 h1 S0 hd hok hn hS0 hk hcat hcr hP
  have := (hC y _ h r1 h1 hcr).1
  exact ⟨Nat.le_trans this.1 hP.1, Nat.le_trans this.2 hP.2⟩
theorem am_m_callS {l : Launch} {G : am_G} {d : Nat} {Cr : am_R} (hC : am_CS l G d Cr) {k : am_K} {h' : am_H} : am_r_callS Cr k (fun _ _ _ g => g.length ≤ h'.length ∧ am_sz g ≤ am_sz h') := by
  intro pc L S h idx y n As r1 h1 S0 hd hok hn hS0 hcat hcr hP
  have := (hC y _ h r1 h1 hcr).1
  exact ⟨Nat.le_trans this.1 hP.1, Nat.le_trans this.2 hP.2⟩
theorem am_m_callSN {l : Launch} {G : am_G} {d : Nat} {Cr : am_R} (hC : am_CS l G d Cr) {k : am_K} {h' : am_H} : am_r_callSN Cr k (fun _ _ _ g => g.length ≤ h'.length ∧ am_sz g ≤ am_sz h') := by
  intro pc L S h idx y n As r1 h1 S0 hd hok hn hS0 hcat hcr hP
  have := (hC y _ h r1 h1 hcr).1
  exact ⟨Nat.le_trans this.1 hP.1, Nat.le_trans this.2 hP.2⟩
theorem am_m_callI {l : Launch} {G : am_G} {d : Nat} {Cr : am_R} (hC : am_CS l G d Cr) {k : am_K} {h' : am_H} : am_r_callI Cr k (fun _ _ _ g => g.length ≤ h'.length ∧ am_sz g ≤ am_sz h') := by
  intro pc L S h idx y n a As r1 h1 S0 hd hok hn hS0 hcat hcr hP
  have := (hC y _ h r1 h1 hcr).1
  exact ⟨Nat.le_trans this.1 hP.1, Nat.le_trans this.2 hP.2⟩
theorem am_m_callIN {l : Launch} {G : am_G} {d : Nat} {Cr : am_R} (hC : am_CS l G d Cr) {k : am_K} {h' : am_H} : am_r_callIN Cr k (fun _ _ _ g => g.length ≤ h'.length ∧ am_sz g ≤ am_sz h') := by
  intro pc L S h idx y n a As r1 h1 S0 hd hok hn hS0 hcat hcr hP
  have := (hC y _ h r1 h1 hcr).1
  exact ⟨Nat.le_trans this.1 hP.1, Nat.le_trans this.2 hP.2⟩
theorem am_m_acopy {k : am_K} {h' : am_H} : am_r_acopy  k (fun _ _ _ g => g.length ≤ h'.length ∧ am_sz g ≤ am_sz h') := by
  intro pc L S h idx a0 a1 n0 n1 f g sp dp n hd hok hk0 hk1 h1 h2 h3 h4 h5 hcat hP
  rw [List.length_set, am_sz_set _ _ _ _ hk1 (by simp [am_sc])] at hP
  exact hP
theorem am_m_ret {r : Option Value} {k : am_K} {h' : am_H} : am_r_ret r h' k (fun _ _ _ g => g.length ≤ h'.length ∧ am_sz g ≤ am_sz h') := by
  intro pc L hf ho
  exact ⟨Nat.le_refl _, Nat.le_refl _⟩
theorem am_m_mna {k : am_K} {h' : am_H} : am_r_mna  k (fun _ _ _ g => g.length ≤ h'.length ∧ am_sz g ≤ am_sz h') := by
  intro pc L S h idx N M n q hd h1 h2 h3 h4 h5 h6 h7 h8 hP
  rw [List.length_append, am_sz_app] at hP
  exact ⟨by omega, by omega⟩
theorem am_mono {l : Launch} {G : am_G} {d : Nat} {Cr : am_R} {X : Nat × (Nat → Int32)} {k : am_K} {r : Option Value} {h' : am_H} (hC : am_CS l G d Cr) : ∀ i, am_RS X Cr k r h' (fun _ _ _ g => g.length ≤ h'.length ∧ am_sz g ≤ am_sz h') i := by
  intro i
  match i with
  | 0 => exact am_m_iconst
  | 1 => exact am_m_bipush
  | 2 => exact am_m_sipush
  | 3 => exact am_m_lconst
  | 4 => exact am_m_iload_n
  | 5 => exact am_m_iload
  | 6 => exact am_m_istore_n
  | 7 => exact am_m_istore
  | 8 => exact am_m_lload_n
  | 9 => exact am_m_lload
  | 10 => exact am_m_lstore_n
  | 11 => exact am_m_lstore
  | 12 => exact am_m_aload_n
  | 13 => exact am_m_aload
  | 14 => exact am_m_astore_n
  | 15 => exact am_m_astore
  | 16 => exact am_m_iinc
  | 17 => exact am_m_iadd
  | 18 => exact am_m_isub
  | 19 => exact am_m_imul
  | 20 => exact am_m_iand
  | 21 => exact am_m_ior
  | 22 => exact am_m_ixor
  | 23 => exact am_m_ishl
  | 24 => exact am_m_ishr
  | 25 => exact am_m_iushr
  | 26 => exact am_m_idiv
  | 27 => exact am_m_irem
  | 28 => exact am_m_ladd
  | 29 => exact am_m_lsub
  | 30 => exact am_m_lmul
  | 31 => exact am_m_ldiv
  | 32 => exact am_m_lrem
  | 33 => exact am_m_i2l
  | 34 => exact am_m_l2i
  | 35 => exact am_m_i2b
  | 36 => exact am_m_lcmp
  | 37 => exact am_m_dup
  | 38 => exact am_m_pop
  | 39 => exact am_m_dup2
  | 40 => exact am_m_if_eq
  | 41 => exact am_m_icmp_eq
  | 42 => exact am_m_if_ne
  | 43 => exact am_m_icmp_ne
  | 44 => exact am_m_if_lt
  | 45 => exact am_m_icmp_lt
  | 46 => exact am_m_if_ge
  | 47 => exact am_m_icmp_ge
  | 48 => exact am_m_if_gt
  | 49 => exact am_m_icmp_gt
  | 50 => exact am_m_if_le
  | 51 => exact am_m_icmp_le
  | 52 => exact am_m_goto
  | 53 => exact am_m_tableIn
  | 54 => exact am_m_tableOut
  | 55 => exact am_m_ldc
  | 56 => exact am_m_ldc_w
  | 57 => exact am_m_ldc2
  | 58 => exact am_m_getLet
  | 59 => exact am_m_getf
  | 60 => exact am_m_putI
  | 61 => exact am_m_putJ
  | 62 => exact am_m_putF
  | 63 => exact am_m_iald
  | 64 => exact am_m_sald (X := X)
  | 65 => exact am_m_slen (X := X)
  | 66 => exact am_m_letld
  | 67 => exact am_m_bald
  | 68 => exact am_m_lald
  | 69 => exact am_m_aald
  | 70 => exact am_m_iast
  | 71 => exact am_m_bast
  | 72 => exact am_m_last
  | 73 => exact am_m_aast
  | 74 => exact am_m_alen
  | 75 => exact am_m_new
  | 76 => exact am_m_newa
  | 77 => exact am_m_anew
  | 78 => exact am_m_objI
  | 79 => exact am_m_callV hC
  | 80 => exact am_m_callS hC
  | 81 => exact am_m_callSN hC
  | 82 => exact am_m_callI hC
  | 83 => exact am_m_callIN hC
  | 84 => exact am_m_acopy
  | 85 => exact am_m_ret
  | 86 => exact am_m_mna
  | n + 87 => exact trivial
-- ===== calls by depth; what a call keeps =====
def am_C_ (X : Nat × (Nat → Int32)) : Nat → am_R
  | 0 => fun _ _ _ _ _ => False
  | d + 1 => fun y vs h r h' => am_ok y ∧ am_nd vs = true ∧ (am_lay vs).length ≤ y.2.2.1 ∧ am_run X (am_C_ X d) y r h' 0 (am_eL vs y.2.2.1) [] h
theorem am_lg (f : Nat → Nat) : ∀ vs : List Value, am_nd vs = true → (lg_sl (vs.map (am_cv f))).length = (am_lay vs).length
  | [], _ => rfl
  | v :: vs, h => by
    cases v with
    | double x => simp [am_nd] at h
    | long x =>
      have ih := am_lg f vs (by simpa [am_nd] using h)
      simp only [lg_sl, List.map_cons, List.flatMap_cons, List.length_append, am_lay, List.length_cons] at ih ⊢
      rw [ih]
      simp [am_cv, Value.category]
      omega
    | int x =>
      have ih := am_lg f vs (by simpa [am_nd] using h)
      simp only [lg_sl, List.map_cons, List.flatMap_cons, List.length_append, am_lay, List.length_cons] at ih ⊢
      rw [ih]
      simp [am_cv, Value.category]
      omega
    | float x =>
      have ih := am_lg f vs (by simpa [am_nd] using h)
      simp only [lg_sl, List.map_cons, List.flatMap_cons, List.length_append, am_lay, List.length_cons] at ih ⊢
      rw [ih]
      simp [am_cv, Value.category]
      omega
    | null =>
      have ih := am_lg f vs (by simpa [am_nd] using h)
      simp only [lg_sl, List.map_cons, List.flatMap_cons, List.length_append, am_lay, List.length_cons] at ih ⊢
      rw [ih]
      simp [am_cv, Value.category]
      omega
    | ref x =>
      have ih := am_lg f vs (by simpa [am_nd] using h)
      simp only [lg_sl, List.map_cons, List.flatMap_cons, List.length_append, am_lay, List.length_cons] at ih ⊢
      rw [ih]
      simp [am_cv, Value.category]
      omega
    | retAddr x =>
      have ih := am_lg f vs (by simpa [am_nd] using h)
      simp only [lg_sl, List.map_cons, List.flatMap_cons, List.length_append, am_lay, List.length_cons] at ih ⊢
      rw [ih]
      simp [am_cv, Value.category]
      omega
theorem am_CS_all (l : Launch) (G : am_G) : ∀ d, am_CS l G d (am_C_ (am_gN G, am_gx G) d)
  | 0 => fun y vs h r h' hq => hq.elim
  | d + 1 => fun y vs h r h' hq => by
    have ih := am_CS_all l G d
    obtain ⟨⟨o1, o2, o3, o4, o5, o6⟩, hnd, hlen, hrun⟩ := hq
    have mono : h.length ≤ h'.length ∧ am_sz h ≤ am_sz h' :=
      hrun (fun _ _ _ g => g.length ≤ h'.length ∧ am_sz g ≤ am_sz h') (am_mono ih)
    refine ⟨mono, ?_⟩
    refine va_MetF (cc := y.2.1) (maxL := y.2.2.1) (ret := y.2.2.2) o1 rfl ?_
    intro p e s m args below meth c s₁ B hml hv
    obtain ⟨rfl, hw⟩ := hv
    have hx := B.exec
    have hb := B.bytes
    have hr := B.returns
    have hts0 := atoms_spec (ws := am_ws0 y) B.pre
    have hts : ∀ w ∈ am_tb, w.before _ s = true := fun w hw => hts0 w (List.mem_cons_of_mem _ hw)
    have hown : s.vm.findClass y.1.cls = some m.cls := findClass_of_methodNamed B.named
    have hlocks := B.notSynchronized
    have hnm : meth.name = y.1.name := (name_of_methodNamed B.named B.method).1
    have hS : va_S (am_up G) s.heap s.heap [] := va_S.rf
    have hl := lv_entry (vs.map (am_cv (am_gf G))) (n := y.2.2.1) (by rw [am_lg _ _ hnd]; exact hlen)
    rw [lg_entry_eq]
    generalize (lg_sl (vs.map (am_cv (am_gf G))) ++ List.replicate (y.2.2.1 - (lg_sl (vs.map (am_cv (am_gf G)))).length) Slot.unset).toArray = ls at hl ⊢
    have hc : am_X G d y h h' p (am_rm (d + 1) (h'.length - h.length) (am_sz h' - am_sz h)) s m (vs.map (am_cv (am_gf G))).toArray meth c :=
      ⟨hx, hb, hml, hown, hts, hw.2.2, fun q => hnm.trans q, Nat.le_refl _, Nat.le_refl _, Nat.le_refl _, Nat.le_refl _⟩
    have hF : am_end p l e (am_rm (d + 1) (h'.length - h.length) (am_sz h' - am_sz h)) s m (vs.map (am_cv (am_gf G))).toArray below meth c (MQ below (am_Q G r h') (vs.map (am_cv (am_gf G))).toArray s (h'.length - h.length) (am_sz h' - am_sz h) (am_up G)) G h h' y r := by
      intro pc H locs ls hfin hokr dy
      have hq : ∀ t : State, t.heap = H → s.WarmedH t.vm → am_Q G r h' (vs.map (am_cv (am_gf G))).toArray s (.returned (r.map (am_cv (am_gf G)))) t := fun t ht hW =>
        ⟨rfl, ⟨by rw [ht]; exact dy.1, by rw [ht]; exact dy.2.1, hw.2.2.moved hW (by rw [ht]; exact dy.2.2.1)⟩, dy.2.2.1.F ht⟩
      rcases hfin with ⟨v, rfl, hd⟩ | ⟨v, rfl, hd⟩ | ⟨rfl, hd⟩
      · cases hret : y.2.2.2 with
        | none => rw [hret] at hokr; exact hokr.elim
        | some ty =>
          rw [hret] at hokr hr
          exact W.zret hx hb hr hokr hq dy.2.2.1.2.2 hd hlocks
      · cases hret : y.2.2.2 with
        | none => rw [hret] at hokr; exact hokr.elim
        | some ty =>
          rw [hret] at hokr hr
          have e9 : ty = .long := hokr
          subst e9
          exact W.lret hx hb hr hq dy.2.2.1.2.2 hd hlocks
      · cases hret : y.2.2.2 with
        | some ty => rw [hret] at hokr; exact hokr.elim
        | none =>
          rw [hret] at hr
          exact W.vret hx hb hr hq dy.2.2.1.2.2 hd hlocks
    have := (am_sound hc ih hF hrun).2 s.heap [] ls ⟨hw.1, hw.2.1, hS, Nat.le_refl _, Nat.le_refl _⟩ (am_L.entry hnd hl)
    rw [Nat.sub_self, Nat.sub_self] at this
    exact this
