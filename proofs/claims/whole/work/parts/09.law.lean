-- ===== THE LAW: its entry as the skeleton has it; the start of the abstract machine there =====
def R_law : String := "FlapBoardLaw"
def lw_P (b : Addr) (xs : List Int32) (args : Array Value) (s : State) : Prop := args = #[.ref b] ∧ s.IntsAt b xs ∧ xs.length ≤ 3072 ∧ (Jvm.Cond.and given_1 narrow_1).before args s = true
def lw_Q (_ : Array Value) (s : State) (o : Outcome) (t : State) : Prop := o = .returned (some (.int 1)) ∧ Framed s o t [] 600000 7302250
def lw_Z (below : List Frame) (a : Array Value) (s : State) : State → Prop := fun t => ∃ o, t.status = .running ∧ Ended t below o ∧ lw_Q a s o t
/-- the law's own end, with 1 on the stack, nothing written that was there before, its room as the claim has it -/
theorem lw_ret {p : Program} {l : Launch} {e : Env} {s : State} {m : MethodId} {below : List Frame} {meth : Method} {c : Code} {b : Nat} (hx : p.tables.exec = Jvm.exec) (hb : c.code = code) (hr : meth.sig.returnType = ret) (hlocks : meth.locks = false) {pc : Nat} {H : Heap} {ls : Array Slot} (hdg : decode code pc = .ok (.ireturn, 1)) : W p l e room_1 s m #[Value.ref b] below meth c H [] 600000 7302250 (lw_Z below #[Value.ref b] s) (F0 m pc ls [.int 1]) := by
  intro T hT X
  obtain ⟨fs, hret, hrun, hended, hW, hframe⟩ := X.leave (v := some (.int 1)) (hlocks := hlocks) (fun h => by rw [hr] at h; cases h)
  have hmeth' : T.vm.method? m = some meth := X.method'
  refine ⟨T.setFrames fs, ?_, .returned (some (.int 1)), hrun, hended, rfl, ⟨_, rfl⟩, hW, hframe⟩
  jvm_step X.here [X.here.top, hx, hb, hdg, hmeth', hr, ret, narrow_b1]
  (try refine ⟨rfl, ?_⟩); (try refine ⟨rfl, ?_⟩)
  first | (intro acts; rw [hret _ acts rfl rfl rfl]) | rw [hret _ _ rfl rfl rfl]
  exact Steps.refl _
/-- what holds at the law's entry: the machine, the code, the tables' words (any of lw_tbl by 'hts w (by decide +kernel)'), the script of L ints xs at the cell b, what the Statement gives of the start (any of its parts by flat_of_before) -/
def lw_At (p : Program) (s : State) (m : MethodId) (meth : Method) (c : Code) (b L : Nat) (xs : Nat → Int32) : Prop :=
  p.tables.exec = Jvm.exec ∧ c.code = code ∧ meth.sig.returnType = ret ∧ c.maxLocals = 4 ∧ s.vm.findClass R_law = some m.cls ∧ (∀ w ∈ lw_tbl, w.before #[Value.ref b] s = true) ∧ va_X b L xs s s.heap ∧ b < s.heap.size ∧ meth.locks = false ∧ (Jvm.Cond.and given_1 narrow_1).before #[Value.ref b] s = true
theorem am_k0 : am_cls 0 RX0 TX0 9 tyX0 := ⟨rfl, by decide +kernel, tyX0_ok, nmX0⟩
theorem am_k1 : am_cls 1 RX1 TX1 2 tyX1 := ⟨rfl, by decide +kernel, tyX1_ok, nmX1⟩
theorem am_k2 : am_cls 2 RX2 TX2 4 tyX2 := ⟨rfl, by decide +kernel, tyX2_ok, nmX2⟩
theorem am_k3 : am_cls 3 RX4 TX4 2 tyX4 := ⟨rfl, by decide +kernel, tyX4_ok, nmX4⟩
theorem am_k4 : am_cls 4 RX5 TX5 2 tyX5 := ⟨rfl, by decide +kernel, tyX5_ok, nmX5⟩
theorem am_k5 : am_cls 5 RX6 TX6 2 tyX6 := ⟨rfl, by decide +kernel, tyX6_ok, nmX6⟩
theorem am_k6 : am_cls 6 RX7 TX7 16 tyX7 := ⟨rfl, by decide +kernel, tyX7_ok, nmX7⟩
theorem am_k7 : am_cls 7 RX8 TX8 22 tyX8 := ⟨rfl, by decide +kernel, tyX8_ok, nmX8⟩
theorem am_tb_sub {w : Cond} (h : w ∈ am_tb) : w ∈ lw_tbl := (List.mem_filter.mp h).1
theorem am_nw_sub {w : Cond} (h : w ∈ am_nw) : w ∈ lw_tbl := (List.mem_filter.mp h).1
theorem am_start {s : State} {b L : Nat} {xs : Nat → Int32} (hts : ∀ w ∈ lw_tbl, w.before #[Value.ref b] s = true) (hX : va_X b L xs s s.heap) (hbl : b < s.heap.size) (hgv : (Jvm.Cond.and given_1 narrow_1).before #[Value.ref b] s = true) :
    ∃ G : am_G, am_gN G = L ∧ am_gx G = xs ∧ am_gb G = b ∧ am_gB G = s.heap.size ∧ am_S G s := by
  obtain ⟨c0, i0, K0⟩ := u_known hts (fun w hw => am_tb_sub (am_k0.2.1 w hw)) (n := 9) (hts (.instantiable RX0 9) (by decide +kernel))
  obtain ⟨c1, i1, K1⟩ := u_known hts (fun w hw => am_tb_sub (am_k1.2.1 w hw)) (n := 2) (hts (.instantiable RX1 2) (by decide +kernel))
  obtain ⟨c2, i2, K2⟩ := u_known hts (fun w hw => am_tb_sub (am_k2.2.1 w hw)) (n := 4) (hts (.instantiable RX2 4) (by decide +kernel))
  obtain ⟨c3, i3, K3⟩ := u_known hts (fun w hw => am_tb_sub (am_k3.2.1 w hw)) (n := 2) (hts (.instantiable RX4 2) (by decide +kernel))
  obtain ⟨c4, i4, K4⟩ := u_known hts (fun w hw => am_tb_sub (am_k4.2.1 w hw)) (n := 2) (hts (.instantiable RX5 2) (by decide +kernel))
  obtain ⟨c5, i5, K5⟩ := u_known hts (fun w hw => am_tb_sub (am_k5.2.1 w hw)) (n := 2) (hts (.instantiable RX6 2) (by decide +kernel))
  obtain ⟨c6, i6, K6⟩ := u_known hts (fun w hw => am_tb_sub (am_k6.2.1 w hw)) (n := 16) (hts (.instantiable RX7 16) (by decide +kernel))
  obtain ⟨c7, i7, K7⟩ := u_known hts (fun w hw => am_tb_sub (am_k7.2.1 w hw)) (n := 22) (hts (.instantiable RX8 22) (by decide +kernel))
  obtain ⟨a0, ka0, co0, f0, g0, e0⟩ := Cond.arrayClass_spec (hts (.arrayClass .int) (by decide +kernel))
  obtain ⟨a1, ka1, co1, f1, g1, e1⟩ := Cond.arrayClass_spec (hts (.arrayClass .byte) (by decide +kernel))
  obtain ⟨a2, ka2, co2, f2, g2, e2⟩ := Cond.arrayClass_spec (hts (.arrayClass .long) (by decide +kernel))
  have w3 := hts (.arrayOver (.object "FlapBoard$Row")) (by decide +kernel)
  obtain ⟨co3, a3, ka3, u3, -, g3, e3, f3⟩ := Cond.arrayOver_spec w3
  have w4 := hts (.arrayOver (.object "FlapBoard$Text")) (by decide +kernel)
  obtain ⟨co4, a4, ka4, u4, -, g4, e4, f4⟩ := Cond.arrayOver_spec w4
  have w5 := hts (.arrayOver (.object "FlapBoard$Deeds")) (by decide +kernel)
  obtain ⟨co5, a5, ka5, u5, -, g5, e5, f5⟩ := Cond.arrayOver_spec w5
  have w6 := hts (.arrayOver (.object "FlapBoard$Board")) (by decide +kernel)
  obtain ⟨co6, a6, ka6, u6, -, g6, e6, f6⟩ := Cond.arrayOver_spec w6
  have w7 := hts (.arrayOver (.array .int)) (by decide +kernel)
  obtain ⟨co7, a7, ka7, u7, -, g7, e7, f7⟩ := arrayOverA_spec w7
  have hs := flat_of_before _ hgv
  have hnA : ∀ a : Nat, a < s.heap.size → ¬ s.heap.size ≤ a := fun a h => Nat.not_le.mpr h
  have hel : ∀ j : Nat, j < 6 → (Term.elem (.static "FlapBoard" "LETTERS" "[I") (.int (Int32.ofNat j))).eval #[Value.ref b] s none [] s = some (.int (am_let j)) := by
    intro j hj
    match j, hj with
    | 0, _ => exact va_eqt (hs (.eq (.elem (.static "FlapBoard" "LETTERS" "[I") (.int 0)) (.int 102)) (by decide +kernel))
    | 1, _ => exact va_eqt (hs (.eq (.elem (.static "FlapBoard" "LETTERS" "[I") (.int 1)) (.int 115)) (by decide +kernel))
    | 2, _ => exact va_eqt (hs (.eq (.elem (.static "FlapBoard" "LETTERS" "[I") (.int 2)) (.int 107)) (by decide +kernel))
    | 3, _ => exact va_eqt (hs (.eq (.elem (.static "FlapBoard" "LETTERS" "[I") (.int 3)) (.int 98)) (by decide +kernel))
    | 4, _ => exact va_eqt (hs (.eq (.elem (.static "FlapBoard" "LETTERS" "[I") (.int 4)) (.int 116)) (by decide +kernel))
    | 5, _ => exact va_eqt (hs (.eq (.elem (.static "FlapBoard" "LETTERS" "[I") (.int 5)) (.int 113)) (by decide +kernel))
  obtain ⟨lt, hlt, hT⟩ := va_Tof (N := 6) (ty := .int) (f := fun j => .int (am_let j)) (A := fun q => s.heap.size ≤ q) (by decide) (hs (.arrayOf (.static "FlapBoard" "LETTERS" "[I") .int) (by decide +kernel)) (va_eqt (hs (.eq (.length (.static "FlapBoard" "LETTERS" "[I")) (.int 6)) (by decide +kernel))) hel hnA
  have hZ := va_Zof (A := fun q => s.heap.size ≤ q) (hts (.laysStatic "FlapBoard" "LETTERS" "[I") (by decide +kernel)) (hts (.initialized "FlapBoard") (by decide +kernel)) hlt hnA
  let D1 : Nat → ClassId := fun c => match c with
    | 0 => c0
    | 1 => c1
    | 2 => c2
    | 3 => c3
    | 4 => c4
    | 5 => c5
    | 6 => c6
    | _ => c7
  let D2 : Nat → Nat → Nat := fun c => match c with
    | 0 => i0
    | 1 => i1
    | 2 => i2
    | 3 => i3
    | 4 => i4
    | 5 => i5
    | 6 => i6
    | _ => i7
  let cA : Nat → ClassId := fun t => match t with
    | 0 => a0
    | 1 => a1
    | 2 => a2
    | 3 => a3
    | 4 => a4
    | 5 => a5
    | 6 => a6
    | _ => a7
  refine ⟨((D1, D2), cA, b, L, xs, lt, s.heap.size), rfl, rfl, rfl, rfl, ⟨⟨fun c q hq => ?_, fun t q hq => ?_⟩, hX, hbl, Nat.le_refl _, hZ, hT, fun w hw => va_Nw.of (am_nw_tab hw) (hts w (am_nw_sub hw)), fun t ht => ?_, w7⟩⟩
  · match c with
    | 0 => cases hq; exact K0
    | 1 => cases hq; exact K1
    | 2 => cases hq; exact K2
    | 3 => cases hq; exact K3
    | 4 => cases hq; exact K4
    | 5 => cases hq; exact K5
    | 6 => cases hq; exact K6
    | 7 => cases hq; exact K7
    | n + 8 => simp [vwCl] at hq
  · match t with
    | 0 => cases hq; exact ⟨fun n z => ⟨(fun k h => by cases h), ka0, g0, co0, e0⟩, f0⟩
    | 1 => cases hq; exact ⟨fun n z => ⟨(fun k h => by cases h), ka1, g1, co1, e1⟩, f1⟩
    | 2 => cases hq; exact ⟨fun n z => ⟨(fun k h => by cases h), ka2, g2, co2, e2⟩, f2⟩
    | 3 => cases hq; exact ⟨fun n z => ⟨(fun k h => by cases h), ka3, g3, co3, e3⟩, ka3, co3, g3, e3, u3, f3⟩
    | 4 => cases hq; exact ⟨fun n z => ⟨(fun k h => by cases h), ka4, g4, co4, e4⟩, ka4, co4, g4, e4, u4, f4⟩
    | 5 => cases hq; exact ⟨fun n z => ⟨(fun k h => by cases h), ka5, g5, co5, e5⟩, ka5, co5, g5, e5, u5, f5⟩
    | 6 => cases hq; exact ⟨fun n z => ⟨(fun k h => by cases h), ka6, g6, co6, e6⟩, ka6, co6, g6, e6, u6, f6⟩
    | 7 => cases hq; exact ⟨fun n z => ⟨(fun k h => by cases h), ka7, g7, co7, e7⟩, f7⟩
    | n + 8 => simp [am_tys] at hq
  · match t, ht with
    | 0, _ => exact ⟨_, rfl, va_AO.of w3⟩
    | 1, _ => exact ⟨_, rfl, va_AO.of w4⟩
    | 2, _ => exact ⟨_, rfl, va_AO.of w5⟩
    | 3, _ => exact ⟨_, rfl, va_AO.of w6⟩
def am_kL : am_K := (x, code, 4, ret)
theorem am_law {p : Program} {e : Env} {s : State} {m : MethodId} {below : List Frame} {meth : Method} {c : Code} (l : Launch) {b L : Nat} {xs : Nat → Int32} (C0 : lw_At p s m meth c b L xs) (d : Nat) (hd : d ≤ 1000) {h' : am_H} (m1 : h'.length ≤ 600000) (m2 : am_sz h' ≤ 7302250)
    (hrun : am_run (L, xs) (am_C_ (L, xs) d) am_kL (some (.int 1)) h' 0 (am_eL [.ref 0] 4) [] []) : W p l e room_1 s m #[Value.ref b] below meth c s.heap [] 0 0 (lw_Z below #[Value.ref b] s) (entryFrame m ([Value.ref b] : List Value).toArray 4) := by
  obtain ⟨hx, hb, hr, hml, hown, hts, hX, hbl, hlocks, hgv⟩ := C0
  obtain ⟨G, rfl, rfl, rfl, hB, hS⟩ := am_start hts hX hbl hgv
  have hc : am_X G d am_kL [] h' p room_1 s m #[Value.ref (am_gb G)] meth c := ⟨hx, hb, hml, hown, fun w hw => hts w (am_tb_sub hw), hS, fun q => absurd q (by decide), by show d + 2 ≤ 2048; omega, by show 64 * (d + 2) ≤ 84000; omega, by show h'.length - 0 ≤ 600000; omega, by show am_sz h' - 0 ≤ 7302250; omega⟩
  have hF : am_end p l e room_1 s m #[Value.ref (am_gb G)] below meth c (lw_Z below #[Value.ref (am_gb G)] s) G [] h' am_kL (some (.int 1)) := by
    intro pc H locs ls hfin hokr dy
    rcases hfin with ⟨v, e1, hd⟩ | ⟨v, e1, hd⟩ | ⟨e1, hd⟩
    · cases e1
      refine va_forget (fun q hq => by rw [← hB]; exact dy.2.2.1.2.2 q hq) ?_
      refine W.widen (k := 600000) (n := 7302250) (by show h'.length - 0 ≤ 600000; omega) (by show am_sz h' - 0 ≤ 7302250; omega) ?_
      exact lw_ret hx hb hr hlocks hd
    · cases e1
    · cases e1
  have hl := lv_entry ([Value.ref 0].map (am_cv (am_gf G))) (n := 4) (Nat.le_of_ble_eq_true rfl)
  have := (am_sound hc (am_CS_all l G d) hF hrun).2 s.heap [] _ ⟨by rw [hB]; rfl, fun k q hq => by simp [am_ws] at hq, va_S.rf, Nat.le_refl _, Nat.le_refl _⟩ (am_L.entry rfl hl)
  rw [lg_entry_eq]
  exact this
