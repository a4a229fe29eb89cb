-- ===== FlapBoard: refusals, rows, texts =====
abbrev PO (μ : am_M) (p : Int32 × SG) : Option Value → am_M → Prop := qi (fun v μ' => v = p.1 ∧ CI μ' p.2 ∧ fr μ μ')
theorem m3_ne : ¬ (-3 : Int32) = 0 := by decide
theorem po_same {μ : am_M} {σ : SG} {v : Int32} (h : CI μ σ) {p : Int32 × SG} (e : p = (v, σ)) : v = p.1 ∧ CI μ p.2 ∧ fr μ μ := by subst e; exact ⟨rfl, h, fr.rf μ⟩
section F1
variable {X : Nat × (Nat → Int32)} {d : Nat} {μ : am_M} {σ : SG} {r x y z : Int32} {j n : Nat} {f : Nat → Int32}
theorem c_found {k : Nat} (hk : k < 6) (h : CI μ σ) : cp X (d + 1) kX7_found [.ref 2, .int (nI k)] μ (PO μ (-3, gF σ k)) := by
  refine cp_of ok_X7_found (L := [.ref 2, .int (nI k)]) rfl ?_
  refine tr_aload_n dX7_found_0 rfl ?_
  refine tr_iload_n dX7_found_1 rfl ?_
  refine tr_putI dX7_found_2 fp_RX7_303 (by first | assumption | decide) (by first | assumption | rfl) rfl ?_
  refine tr_aload_n dX7_found_5 rfl ?_
  refine tr_getR dX7_found_6 fg_RX7_75 (by first | assumption | decide) (by first | assumption | rfl) rfl (by omega) ?_
  refine tr_iload_n dX7_found_9 rfl ?_
  refine tr_dup2 dX7_found_10 rfl rfl ?_
  -- at 11: .iaload
  refine tr_iald (n := 6) (cs := []) dX7_found_11 (by decide) rfl rfl hk (by omega) rfl ?_
  refine tr_iconst (v := nI 1) dX7_found_12 (by decide) ?_
  first | with_reducible refine tr_iaddN dX7_found_13 ?_ | refine tr_iadd dX7_found_13 ?_
  -- at 14: .iastore
  refine tr_iast (n := 6) (cs := []) dX7_found_14 (by decide) rfl rfl hk (by omega) ?_
  refine tr_bipush (v := -3) dX7_found_15 (by decide) ?_
  -- at 17: .ireturn
  have h7 := h.2.2.2.2.2.2.1
  have h9 := h.2.2.2.2.2.2.2.2.1
  refine tr_iret dX7_found_17 (by first | exact trivial | rfl) ⟨rfl, ?_, ?_⟩
  · refine h.two _ _ rfl rfl rfl rfl rfl rfl rfl ?_ ?_ (fun q hq => ?_)
    · rw [pk_un (by omega)]; exact h7
    · rw [pk_us]; rfl
    · show upd _ k _ q = upd (sC σ) k (sC σ k + 1) q
      by_cases e : q = k
      · subst e
        rw [pk_us, pk_us, sI_ne _ _ (by omega), h9 q hq]
        rfl
      · rw [pk_un e, pk_un e, sI_ne _ _ (by omega)]
        exact h9 q hq
  · exact (((sP.rf (fun b => b = 2 ∨ b = 72) μ).put _ (Or.inl rfl)).put _ (Or.inr rfl)).fr (fun b hb => by omega)
theorem c_isRow : cp X (d + 1) kX7_isRow [.int r] μ (qi (fun v μ' => μ' = μ ∧ v = nI (bN (ixV r 6).isSome))) := by
  refine cp_of ok_X7_isRow (L := [.int r]) rfl ?_
  refine tr_iload_n dX7_isRow_0 rfl ?_
  -- at 1: .ifCond .lt 13
  refine tr_if_lt (tgt := 14) dX7_isRow_1 (by decide) (fun h1 => ?_) (fun h1 => ?_)
  · refine tr_iconst (v := nI 0) dX7_isRow_14 (by decide) ?_
    -- at 15: .ireturn
    refine tr_iret dX7_isRow_15 (by first | exact trivial | rfl) ⟨rfl, by rw [ixV_not (fun q => Int32.not_le.mpr h1 q.1)]; rfl⟩
  · refine tr_iload_n dX7_isRow_4 rfl ?_
    refine tr_bipush (v := nI 6) dX7_isRow_5 (by decide) ?_
    -- at 7: .if_icmp .ge 7
    refine tr_icmp_ge (tgt := 14) dX7_isRow_7 (by decide) (fun h2 => ?_) (fun h2 => ?_)
    · refine tr_iconst (v := nI 0) dX7_isRow_14 (by decide) ?_
      -- at 15: .ireturn
      refine tr_iret dX7_isRow_15 (by first | exact trivial | rfl) ⟨rfl, by rw [ixV_not (fun q => Int32.not_lt.mpr h2 q.2)]; rfl⟩
    · refine tr_iconst (v := nI 1) dX7_isRow_10 (by decide) ?_
      refine tr_goto (tgt := 15) dX7_isRow_11 (by decide) ?_
      -- at 15: .ireturn
      refine tr_iret dX7_isRow_15 (by first | exact trivial | rfl) ⟨rfl, by rw [ixV, if_pos ⟨Int32.not_lt.mp h1, Int32.not_le.mp h2⟩]; rfl⟩
theorem c_isText : cp X (d + 1) kX7_isText [.int r] μ (qi (fun v μ' => μ' = μ ∧ v = nI (bN (ixV r 4).isSome))) := by
  refine cp_of ok_X7_isText (L := [.int r]) rfl ?_
  refine tr_iload_n dX7_isText_0 rfl ?_
  -- at 1: .ifCond .lt 12
  refine tr_if_lt (tgt := 13) dX7_isText_1 (by decide) (fun h1 => ?_) (fun h1 => ?_)
  · refine tr_iconst (v := nI 0) dX7_isText_13 (by decide) ?_
    -- at 14: .ireturn
    refine tr_iret dX7_isText_14 (by first | exact trivial | rfl) ⟨rfl, by rw [ixV_not (fun q => Int32.not_le.mpr h1 q.1)]; rfl⟩
  · refine tr_iload_n dX7_isText_4 rfl ?_
    refine tr_iconst (v := nI 4) dX7_isText_5 (by decide) ?_
    -- at 6: .if_icmp .ge 7
    refine tr_icmp_ge (tgt := 13) dX7_isText_6 (by decide) (fun h2 => ?_) (fun h2 => ?_)
    · refine tr_iconst (v := nI 0) dX7_isText_13 (by decide) ?_
      -- at 14: .ireturn
      refine tr_iret dX7_isText_14 (by first | exact trivial | rfl) ⟨rfl, by rw [ixV_not (fun q => Int32.not_lt.mpr h2 q.2)]; rfl⟩
    · refine tr_iconst (v := nI 1) dX7_isText_9 (by decide) ?_
      refine tr_goto (tgt := 14) dX7_isText_10 (by decide) ?_
      -- at 14: .ireturn
      refine tr_iret dX7_isText_14 (by first | exact trivial | rfl) ⟨rfl, by rw [ixV, if_pos ⟨Int32.not_lt.mp h1, Int32.not_le.mp h2⟩]; rfl⟩
theorem c_isDrum (h : CI μ σ) : cp X (d + 1) kX7_isDrum [.ref 2, .int r] μ (qi (fun v μ' => μ' = μ ∧ v = nI (bN (ixV r (nowM σ 18)).isSome))) := by
  have r4 := h.2.2.2.1.1
  refine cp_of ok_X7_isDrum (L := [.ref 2, .int r]) rfl ?_
  refine tr_iload_n dX7_isDrum_0 rfl ?_
  -- at 1: .ifCond .lt 18
  refine tr_if_lt (tgt := 19) dX7_isDrum_1 (by decide) (fun h1 => ?_) (fun h1 => ?_)
  · refine tr_iconst (v := nI 0) dX7_isDrum_19 (by decide) ?_
    -- at 20: .ireturn
    refine tr_iret dX7_isDrum_20 (by first | exact trivial | rfl) ⟨rfl, by rw [ixV_not (fun q => Int32.not_le.mpr h1 q.1)]; rfl⟩
  · refine tr_iload_n dX7_isDrum_4 rfl ?_
    refine tr_aload_n dX7_isDrum_5 rfl ?_
    refine tr_getR dX7_isDrum_6 fg_RX7_28 (by first | assumption | decide) (by first | assumption | rfl) rfl (by omega) ?_
    refine tr_getI dX7_isDrum_9 fg_RX7_149 (by first | assumption | decide) (by first | assumption | rfl) rfl (by first | assumption | rfl) ?_
    -- at 12: .if_icmp .ge 7
    refine tr_icmp_ge (tgt := 19) dX7_isDrum_12 (by decide) (fun h2 => ?_) (fun h2 => ?_)
    · refine tr_iconst (v := nI 0) dX7_isDrum_19 (by decide) ?_
      -- at 20: .ireturn
      refine tr_iret dX7_isDrum_20 (by first | exact trivial | rfl) ⟨rfl, by rw [ixV_not (fun q => Int32.not_lt.mpr h2 q.2)]; rfl⟩
    · refine tr_iconst (v := nI 1) dX7_isDrum_15 (by decide) ?_
      refine tr_goto (tgt := 20) dX7_isDrum_16 (by decide) ?_
      -- at 20: .ireturn
      refine tr_iret dX7_isDrum_20 (by first | exact trivial | rfl) ⟨rfl, by rw [ixV, if_pos ⟨Int32.not_lt.mp h1, Int32.not_le.mp h2⟩]; rfl⟩
theorem c_rowRef0 (hr : ixV r 6 = none) : cp X (d + 2) kX7_rowRefused [.ref 2, .int r] μ (qi (fun v μ' => μ' = μ ∧ v = -1)) := by
  refine cp_of ok_X7_rowRefused (L := [.ref 2, .int r]) rfl ?_
  refine tr_iload_n dX7_rowRefused_0 rfl ?_
  -- at 1: .invokestatic 84
  refine tr_Si (As := [_]) dX7_rowRefused_1 fm_RX7_84 rfl rfl (Nat.le_of_ble_eq_true rfl) (c_isRow (d := d)) (fun v μ1 ⟨e1, e2⟩ => ?_)
  subst μ1; subst v
  refine tr_ifb1 (tgt := 9) dX7_rowRefused_4 (by decide) (fun h1 => ?_) (fun h1 => ?_)
  · rw [hr] at h1; cases h1
  · refine tr_iconst (v := -1) dX7_rowRefused_7 (by decide) ?_
    -- at 8: .ireturn
    refine tr_iret dX7_rowRefused_8 (by first | exact trivial | rfl) ⟨rfl, rfl⟩
theorem c_rowRef1 (h : CI μ σ) (hj : j < 6) (ho : sR σ j = none) : cp X (d + 2) kX7_rowRefused [.ref 2, .int (nI j)] μ (PO μ (-3, gF σ 1)) := by
  have hR := isR_r hj
  have hx := h.1 j hj
  rw [ho] at hx
  obtain ⟨⟨i0, i1⟩, s0, s1⟩ := isR_r hj
  refine cp_of ok_X7_rowRefused (L := [.ref 2, .int (nI j)]) rfl ?_
  refine tr_iload_n dX7_rowRefused_0 rfl ?_
  -- at 1: .invokestatic 84
  refine tr_Si (As := [_]) dX7_rowRefused_1 fm_RX7_84 rfl rfl (Nat.le_of_ble_eq_true rfl) (c_isRow (d := d)) (fun v μ1 ⟨e1, e2⟩ => ?_)
  subst μ1; subst v
  rw [ixV_nI hj (by omega)]
  refine tr_ifb1 (tgt := 9) dX7_rowRefused_4 (by decide) (fun h1 => ?_) (fun h1 => ?_)
  · refine tr_aload_n dX7_rowRefused_9 rfl ?_
    refine tr_getR dX7_rowRefused_10 fg_RX7_11 (by first | assumption | decide) (by first | assumption | rfl) rfl (by omega) ?_
    refine tr_iload_n dX7_rowRefused_13 rfl ?_
    -- at 14: .aaload
    refine tr_aald dX7_rowRefused_14 (by first | assumption | decide) (by first | assumption | rfl) (by decide) rfl (row_at hj) (by decide) ?_
    refine tr_Vi (As := []) dX7_rowRefused_15 fm_RX7_110 rfl rfl (by first | assumption | decide) (by first | assumption | rfl) (Nat.le_of_ble_eq_true rfl) (c_rmiss (d := d) hR hx) (fun v μ1 ⟨e1, e2⟩ => ?_)
    subst μ1; subst v
    refine tr_ifb0 (tgt := 29) dX7_rowRefused_18 (by decide) (fun h2 => ?_) (fun h2 => ?_)
    · cases h2
    · refine tr_aload_n dX7_rowRefused_21 rfl ?_
      refine tr_iconst (v := nI 1) dX7_rowRefused_22 (by decide) ?_
      -- at 23: .invokevirtual 88
      refine tr_Vi (As := [_]) dX7_rowRefused_23 fm_RX7_88 rfl rfl (by first | assumption | decide) (by first | assumption | rfl) (Nat.le_of_ble_eq_true rfl) (c_found (d := d) (k := 1) (by omega) h) (fun v μ1 ⟨e1, e2, e3⟩ => ?_)
      refine tr_goto (tgt := 30) dX7_rowRefused_26 (by decide) ?_
      -- at 30: .ireturn
      refine tr_iret dX7_rowRefused_30 (by first | exact trivial | rfl) ⟨e1, e2, e3⟩
  · cases h1
theorem c_rowRef2 (h : CI μ σ) (hj : j < 6) (ho : sR σ j = some (n, f)) : cp X (d + 2) kX7_rowRefused [.ref 2, .int (nI j)] μ (qi (fun v μ' => μ' = μ ∧ v = nI 0)) := by
  have hR := isR_r hj
  have hx := h.1 j hj
  rw [ho] at hx
  obtain ⟨⟨i0, i1⟩, s0, s1⟩ := isR_r hj
  refine cp_of ok_X7_rowRefused (L := [.ref 2, .int (nI j)]) rfl ?_
  refine tr_iload_n dX7_rowRefused_0 rfl ?_
  -- at 1: .invokestatic 84
  refine tr_Si (As := [_]) dX7_rowRefused_1 fm_RX7_84 rfl rfl (Nat.le_of_ble_eq_true rfl) (c_isRow (d := d)) (fun v μ1 ⟨e1, e2⟩ => ?_)
  subst μ1; subst v
  rw [ixV_nI hj (by omega)]
  refine tr_ifb1 (tgt := 9) dX7_rowRefused_4 (by decide) (fun h1 => ?_) (fun h1 => ?_)
  · refine tr_aload_n dX7_rowRefused_9 rfl ?_
    refine tr_getR dX7_rowRefused_10 fg_RX7_11 (by first | assumption | decide) (by first | assumption | rfl) rfl (by omega) ?_
    refine tr_iload_n dX7_rowRefused_13 rfl ?_
    -- at 14: .aaload
    refine tr_aald dX7_rowRefused_14 (by first | assumption | decide) (by first | assumption | rfl) (by decide) rfl (row_at hj) (by decide) ?_
    refine tr_Vi (As := []) dX7_rowRefused_15 fm_RX7_110 rfl rfl (by first | assumption | decide) (by first | assumption | rfl) (Nat.le_of_ble_eq_true rfl) (c_rmiss (d := d) hR hx) (fun v μ1 ⟨e1, e2⟩ => ?_)
    subst μ1; subst v
    refine tr_ifb0 (tgt := 29) dX7_rowRefused_18 (by decide) (fun h2 => ?_) (fun h2 => ?_)
    · refine tr_iconst (v := nI 0) dX7_rowRefused_29 (by decide) ?_
      -- at 30: .ireturn
      refine tr_iret dX7_rowRefused_30 (by first | exact trivial | rfl) ⟨rfl, rfl⟩
    · cases h2
  · cases h1
theorem c_textRef0 (hr : ixV r 4 = none) : cp X (d + 2) kX7_textRefused [.ref 2, .int r] μ (qi (fun v μ' => μ' = μ ∧ v = -1)) := by
  refine cp_of ok_X7_textRefused (L := [.ref 2, .int r]) rfl ?_
  refine tr_iload_n dX7_textRefused_0 rfl ?_
  -- at 1: .invokestatic 124
  refine tr_Si (As := [_]) dX7_textRefused_1 fm_RX7_124 rfl rfl (Nat.le_of_ble_eq_true rfl) (c_isText (d := d)) (fun v μ1 ⟨e1, e2⟩ => ?_)
  subst μ1; subst v
  refine tr_ifb1 (tgt := 9) dX7_textRefused_4 (by decide) (fun h1 => ?_) (fun h1 => ?_)
  · rw [hr] at h1; cases h1
  · refine tr_iconst (v := -1) dX7_textRefused_7 (by decide) ?_
    -- at 8: .ireturn
    refine tr_iret dX7_textRefused_8 (by first | exact trivial | rfl) ⟨rfl, rfl⟩
theorem c_textRef1 (h : CI μ σ) (hj : j < 4) (ho : sT σ j = none) : cp X (d + 2) kX7_textRefused [.ref 2, .int (nI j)] μ (PO μ (-3, gF σ 1)) := by
  have hR := isT_t hj
  have hx := h.2.1 j hj
  rw [ho] at hx
  obtain ⟨⟨i0, i1⟩, s0, s1⟩ := isT_t hj
  refine cp_of ok_X7_textRefused (L := [.ref 2, .int (nI j)]) rfl ?_
  refine tr_iload_n dX7_textRefused_0 rfl ?_
  -- at 1: .invokestatic 124
  refine tr_Si (As := [_]) dX7_textRefused_1 fm_RX7_124 rfl rfl (Nat.le_of_ble_eq_true rfl) (c_isText (d := d)) (fun v μ1 ⟨e1, e2⟩ => ?_)
  subst μ1; subst v
  rw [ixV_nI hj (by omega)]
  refine tr_ifb1 (tgt := 9) dX7_textRefused_4 (by decide) (fun h1 => ?_) (fun h1 => ?_)
  · refine tr_aload_n dX7_textRefused_9 rfl ?_
    refine tr_getR dX7_textRefused_10 fg_RX7_17 (by first | assumption | decide) (by first | assumption | rfl) rfl (by omega) ?_
    refine tr_iload_n dX7_textRefused_13 rfl ?_
    -- at 14: .aaload
    refine tr_aald dX7_textRefused_14 (by first | assumption | decide) (by first | assumption | rfl) (by decide) rfl (text_at hj) (by decide) ?_
    refine tr_Vi (As := []) dX7_textRefused_15 fm_RX7_315 rfl rfl (by first | assumption | decide) (by first | assumption | rfl) (Nat.le_of_ble_eq_true rfl) (c_tmiss (d := d) hR hx) (fun v μ1 ⟨e1, e2⟩ => ?_)
    subst μ1; subst v
    refine tr_ifb0 (tgt := 29) dX7_textRefused_18 (by decide) (fun h2 => ?_) (fun h2 => ?_)
    · cases h2
    · refine tr_aload_n dX7_textRefused_21 rfl ?_
      refine tr_iconst (v := nI 1) dX7_textRefused_22 (by decide) ?_
      -- at 23: .invokevirtual 88
      refine tr_Vi (As := [_]) dX7_textRefused_23 fm_RX7_88 rfl rfl (by first | assumption | decide) (by first | assumption | rfl) (Nat.le_of_ble_eq_true rfl) (c_found (d := d) (k := 1) (by omega) h) (fun v μ1 ⟨e1, e2, e3⟩ => ?_)
      refine tr_goto (tgt := 30) dX7_textRefused_26 (by decide) ?_
      -- at 30: .ireturn
      refine tr_iret dX7_textRefused_30 (by first | exact trivial | rfl) ⟨e1, e2, e3⟩
  · cases h1
theorem c_textRef2 (h : CI μ σ) (hj : j < 4) (ho : sT σ j = some (n, f)) : cp X (d + 2) kX7_textRefused [.ref 2, .int (nI j)] μ (qi (fun v μ' => μ' = μ ∧ v = nI 0)) := by
  have hR := isT_t hj
  have hx := h.2.1 j hj
  rw [ho] at hx
  obtain ⟨⟨i0, i1⟩, s0, s1⟩ := isT_t hj
  refine cp_of ok_X7_textRefused (L := [.ref 2, .int (nI j)]) rfl ?_
  refine tr_iload_n dX7_textRefused_0 rfl ?_
  -- at 1: .invokestatic 124
  refine tr_Si (As := [_]) dX7_textRefused_1 fm_RX7_124 rfl rfl (Nat.le_of_ble_eq_true rfl) (c_isText (d := d)) (fun v μ1 ⟨e1, e2⟩ => ?_)
  subst μ1; subst v
  rw [ixV_nI hj (by omega)]
  refine tr_ifb1 (tgt := 9) dX7_textRefused_4 (by decide) (fun h1 => ?_) (fun h1 => ?_)
  · refine tr_aload_n dX7_textRefused_9 rfl ?_
    refine tr_getR dX7_textRefused_10 fg_RX7_17 (by first | assumption | decide) (by first | assumption | rfl) rfl (by omega) ?_
    refine tr_iload_n dX7_textRefused_13 rfl ?_
    -- at 14: .aaload
    refine tr_aald dX7_textRefused_14 (by first | assumption | decide) (by first | assumption | rfl) (by decide) rfl (text_at hj) (by decide) ?_
    refine tr_Vi (As := []) dX7_textRefused_15 fm_RX7_315 rfl rfl (by first | assumption | decide) (by first | assumption | rfl) (Nat.le_of_ble_eq_true rfl) (c_tmiss (d := d) hR hx) (fun v μ1 ⟨e1, e2⟩ => ?_)
    subst μ1; subst v
    refine tr_ifb0 (tgt := 29) dX7_textRefused_18 (by decide) (fun h2 => ?_) (fun h2 => ?_)
    · refine tr_iconst (v := nI 0) dX7_textRefused_29 (by decide) ?_
      -- at 30: .ireturn
      refine tr_iret dX7_textRefused_30 (by first | exact trivial | rfl) ⟨rfl, rfl⟩
    · cases h2
  · cases h1
theorem c_placeRef0 (hr : ixV r 6 = none) : cp X (d + 3) kX7_placeRefused [.ref 2, .int r, .int x] μ (qi (fun v μ' => μ' = μ ∧ v = -1)) := by
  refine cp_of ok_X7_placeRefused (L := [.ref 2, .int r, .int x, .float 0]) rfl ?_
  refine tr_aload_n dX7_placeRefused_0 rfl ?_
  refine tr_iload_n dX7_placeRefused_1 rfl ?_
  -- at 2: .invokevirtual 106
  refine tr_Vi (As := [_]) dX7_placeRefused_2 fm_RX7_106 rfl rfl (by first | assumption | decide) (by first | assumption | rfl) (Nat.le_of_ble_eq_true rfl) (c_rowRef0 (d := d) hr) (fun v μ1 ⟨e1, e2⟩ => ?_)
  subst μ1; subst v
  refine tr_istore_n_3 dX7_placeRefused_5 (by decide) rfl ?_
  refine tr_iload_n dX7_placeRefused_6 rfl ?_
  -- at 7: .ifCond .eq 5
  refine tr_if_eq (tgt := 12) dX7_placeRefused_7 (by decide) (fun h1 => ?_) (fun h1 => ?_)
  · exact absurd h1 (by first | exact m3_ne | decide)
  · refine tr_iload_n dX7_placeRefused_10 rfl ?_
    -- at 11: .ireturn
    refine tr_iret dX7_placeRefused_11 (by first | exact trivial | rfl) ⟨rfl, rfl⟩
theorem c_placeRef1 (h : CI μ σ) (hj : j < 6) (ho : sR σ j = none) : cp X (d + 3) kX7_placeRefused [.ref 2, .int (nI j), .int x] μ (PO μ (-3, gF σ 1)) := by
  refine cp_of ok_X7_placeRefused (L := [.ref 2, .int (nI j), .int x, .float 0]) rfl ?_
  refine tr_aload_n dX7_placeRefused_0 rfl ?_
  refine tr_iload_n dX7_placeRefused_1 rfl ?_
  -- at 2: .invokevirtual 106
  refine tr_Vi (As := [_]) dX7_placeRefused_2 fm_RX7_106 rfl rfl (by first | assumption | decide) (by first | assumption | rfl) (Nat.le_of_ble_eq_true rfl) (c_rowRef1 (d := d) h hj ho) (fun v μ1 ⟨e1, e2, e3⟩ => ?_)
  subst v
  refine tr_istore_n_3 dX7_placeRefused_5 (by decide) rfl ?_
  refine tr_iload_n dX7_placeRefused_6 rfl ?_
  -- at 7: .ifCond .eq 5
  refine tr_if_eq (tgt := 12) dX7_placeRefused_7 (by decide) (fun h1 => ?_) (fun h1 => ?_)
  · exact absurd h1 (by first | exact m3_ne | decide)
  · refine tr_iload_n dX7_placeRefused_10 rfl ?_
    -- at 11: .ireturn
    refine tr_iret dX7_placeRefused_11 (by first | exact trivial | rfl) ⟨rfl, e2, e3⟩
theorem c_placeRef2 (h : CI μ σ) (hj : j < 6) (ho : sR σ j = some (n, f)) (hx : ixV x n = none) : cp X (d + 3) kX7_placeRefused [.ref 2, .int (nI j), .int x] μ (PO μ (-3, gF σ 2)) := by
  obtain ⟨⟨i0, i1⟩, s0, s1⟩ := isR_r hj
  have hX := h.1 j hj
  rw [ho] at hX
  have r1 := hX.1
  refine cp_of ok_X7_placeRefused (L := [.ref 2, .int (nI j), .int x, .float 0]) rfl ?_
  refine tr_aload_n dX7_placeRefused_0 rfl ?_
  refine tr_iload_n dX7_placeRefused_1 rfl ?_
  -- at 2: .invokevirtual 106
  refine tr_Vi (As := [_]) dX7_placeRefused_2 fm_RX7_106 rfl rfl (by first | assumption | decide) (by first | assumption | rfl) (Nat.le_of_ble_eq_true rfl) (c_rowRef2 (d := d) h hj ho) (fun v μ1 ⟨e1, e2⟩ => ?_)
  subst μ1; subst v
  refine tr_istore_n_3 dX7_placeRefused_5 (by decide) rfl ?_
  refine tr_iload_n dX7_placeRefused_6 rfl ?_
  -- at 7: .ifCond .eq 5
  refine tr_if0N (tgt := 12) dX7_placeRefused_7 (by decide) (by omega) (fun h1 => ?_) (fun h1 => ?_)
  · refine tr_iload_n dX7_placeRefused_12 rfl ?_
    -- at 13: .ifCond .lt 16
    refine tr_if_lt (tgt := 29) dX7_placeRefused_13 (by decide) (fun h2 => ?_) (fun h2 => ?_)
    · refine tr_aload_n dX7_placeRefused_29 rfl ?_
      refine tr_iconst (v := nI 2) dX7_placeRefused_30 (by decide) ?_
      -- at 31: .invokevirtual 88
      refine tr_Vi (As := [_]) dX7_placeRefused_31 fm_RX7_88 rfl rfl (by first | assumption | decide) (by first | assumption | rfl) (Nat.le_of_ble_eq_true rfl) (c_found (d := d + 1) (k := 2) (by omega) h) (fun v μ1 ⟨e1, e2, e3⟩ => ?_)
      refine tr_goto (tgt := 38) dX7_placeRefused_34 (by decide) ?_
      -- at 38: .ireturn
      refine tr_iret dX7_placeRefused_38 (by first | exact trivial | rfl) ⟨e1, e2, e3⟩
    · refine tr_iload_n dX7_placeRefused_16 rfl ?_
      refine tr_aload_n dX7_placeRefused_17 rfl ?_
      refine tr_getR dX7_placeRefused_18 fg_RX7_11 (by first | assumption | decide) (by first | assumption | rfl) rfl (by omega) ?_
      refine tr_iload_n dX7_placeRefused_21 rfl ?_
      -- at 22: .aaload
      refine tr_aald dX7_placeRefused_22 (by first | assumption | decide) (by first | assumption | rfl) (by decide) rfl (row_at hj) (by decide) ?_
      refine tr_getI dX7_placeRefused_23 fg_RX7_109 (by first | assumption | decide) (by first | assumption | rfl) rfl (by first | assumption | rfl) ?_
      -- at 26: .if_icmp .lt 11
      refine tr_icmp_lt (tgt := 37) dX7_placeRefused_26 (by decide) (fun h3 => ?_) (fun h3 => ?_)
      · exact absurd ⟨Int32.not_lt.mp h2, h3⟩ (ixV_none hx)
      · refine tr_aload_n dX7_placeRefused_29 rfl ?_
        refine tr_iconst (v := nI 2) dX7_placeRefused_30 (by decide) ?_
        -- at 31: .invokevirtual 88
        refine tr_Vi (As := [_]) dX7_placeRefused_31 fm_RX7_88 rfl rfl (by first | assumption | decide) (by first | assumption | rfl) (Nat.le_of_ble_eq_true rfl) (c_found (d := d + 1) (k := 2) (by omega) h) (fun v μ1 ⟨e1, e2, e3⟩ => ?_)
        refine tr_goto (tgt := 38) dX7_placeRefused_34 (by decide) ?_
        -- at 38: .ireturn
        refine tr_iret dX7_placeRefused_38 (by first | exact trivial | rfl) ⟨e1, e2, e3⟩
  · omega
theorem c_placeRef3 (h : CI μ σ) (hj : j < 6) (ho : sR σ j = some (n, f)) {q : Nat} (hq : q < n) : cp X (d + 3) kX7_placeRefused [.ref 2, .int (nI j), .int (nI q)] μ (qi (fun v μ' => μ' = μ ∧ v = nI 0)) := by
  obtain ⟨⟨i0, i1⟩, s0, s1⟩ := isR_r hj
  have hX := h.1 j hj
  rw [ho] at hX
  have r1 := hX.1
  have r2 := hX.2.1
  refine cp_of ok_X7_placeRefused (L := [.ref 2, .int (nI j), .int (nI q), .float 0]) rfl ?_
  refine tr_aload_n dX7_placeRefused_0 rfl ?_
  refine tr_iload_n dX7_placeRefused_1 rfl ?_
  -- at 2: .invokevirtual 106
  refine tr_Vi (As := [_]) dX7_placeRefused_2 fm_RX7_106 rfl rfl (by first | assumption | decide) (by first | assumption | rfl) (Nat.le_of_ble_eq_true rfl) (c_rowRef2 (d := d) h hj ho) (fun v μ1 ⟨e1, e2⟩ => ?_)
  subst μ1; subst v
  refine tr_istore_n_3 dX7_placeRefused_5 (by decide) rfl ?_
  refine tr_iload_n dX7_placeRefused_6 rfl ?_
  -- at 7: .ifCond .eq 5
  refine tr_if0N (tgt := 12) dX7_placeRefused_7 (by decide) (by omega) (fun h1 => ?_) (fun h1 => ?_)
  · refine tr_iload_n dX7_placeRefused_12 rfl ?_
    -- at 13: .ifCond .lt 16
    refine tr_if_lt (tgt := 29) dX7_placeRefused_13 (by decide) (fun h2 => ?_) (fun h2 => ?_)
    · exact absurd h2 (nI_pos (by omega))
    · refine tr_iload_n dX7_placeRefused_16 rfl ?_
      refine tr_aload_n dX7_placeRefused_17 rfl ?_
      refine tr_getR dX7_placeRefused_18 fg_RX7_11 (by first | assumption | decide) (by first | assumption | rfl) rfl (by omega) ?_
      refine tr_iload_n dX7_placeRefused_21 rfl ?_
      -- at 22: .aaload
      refine tr_aald dX7_placeRefused_22 (by first | assumption | decide) (by first | assumption | rfl) (by decide) rfl (row_at hj) (by decide) ?_
      refine tr_getI dX7_placeRefused_23 fg_RX7_109 (by first | assumption | decide) (by first | assumption | rfl) rfl (by first | assumption | rfl) ?_
      -- at 26: .if_icmp .lt 11
      refine tr_ltN (tgt := 37) dX7_placeRefused_26 (by decide) (by omega) (by omega) (fun h3 => ?_) (fun h3 => ?_)
      · refine tr_iconst (v := nI 0) dX7_placeRefused_37 (by decide) ?_
        -- at 38: .ireturn
        refine tr_iret dX7_placeRefused_38 (by first | exact trivial | rfl) ⟨rfl, rfl⟩
      · omega
  · omega
-- row
def S_row (σ : SG) (r n : Int32) : Int32 × SG := match ixV r 6 with
  | none => (-1, σ)
  | some j => if nI 40 < n then (-1, σ) else if n < 0 then (-3, gF σ 5) else (n, gR σ j (some (n.toNatClampNeg, fun _ => 0)))
theorem f_row (h : CI μ σ) : cp X (d + 3) kX7_row [.ref 2, .int r, .int x] μ (PO μ (S_row σ r x)) := by
  refine cp_of ok_X7_row (L := [.ref 2, .int r, .int x]) rfl ?_
  refine tr_iload_n dX7_row_0 rfl ?_
  -- at 1: .invokestatic 84
  refine tr_Si (As := [_]) dX7_row_1 fm_RX7_84 rfl rfl (Nat.le_of_ble_eq_true rfl) (c_isRow (d := d + 1)) (fun v μ1 ⟨e1, e2⟩ => ?_)
  subst μ1; subst v
  cases hr : ixV r 6 with
  | none =>
    refine tr_ifb0 (tgt := 13) dX7_row_4 (by decide) (fun h1 => ?_) (fun h1 => ?_)
    · refine tr_iconst (v := -1) dX7_row_13 (by decide) ?_
      -- at 14: .ireturn
      refine tr_iret dX7_row_14 (by first | exact trivial | rfl) (po_same h (by rw [S_row, hr]))
    · cases h1
  | some j =>
    obtain ⟨rfl, hj⟩ := ixV_some (by omega) hr
    refine tr_ifb0 (tgt := 13) dX7_row_4 (by decide) (fun h1 => ?_) (fun h1 => ?_)
    · cases h1
    · refine tr_iload_n dX7_row_7 rfl ?_
      refine tr_bipush (v := nI 40) dX7_row_8 (by decide) ?_
      -- at 10: .if_icmp .le 5
      refine tr_icmp_le (tgt := 15) dX7_row_10 (by decide) (fun h2 => ?_) (fun h2 => ?_)
      · refine tr_iload_n dX7_row_15 rfl ?_
        -- at 16: .ifCond .ge 9
        refine tr_if_ge (tgt := 25) dX7_row_16 (by decide) (fun h3 => ?_) (fun h3 => ?_)
        · obtain ⟨q, hq, rfl⟩ := nI_of (Int32.not_lt.mpr h3)
          have hq2 := (nI_leI hq (by omega)).mp h2
          obtain ⟨⟨i0, i1⟩, s0, s1⟩ := isR_r hj
          refine tr_aload_n dX7_row_25 rfl ?_
          refine tr_getR dX7_row_26 fg_RX7_11 (by first | assumption | decide) (by first | assumption | rfl) rfl (by omega) ?_
          refine tr_iload_n dX7_row_29 rfl ?_
          -- at 30: .aaload
          refine tr_aald dX7_row_30 (by first | assumption | decide) (by first | assumption | rfl) (by decide) rfl (row_at hj) (by decide) ?_
          refine tr_iload_n dX7_row_31 rfl ?_
          -- at 32: .invokevirtual 92
          refine tr_Vv (As := [_]) dX7_row_32 fm_RX7_92 rfl rfl (by first | assumption | decide) (by first | assumption | rfl) (Nat.le_of_ble_eq_true rfl) (c_rbegin (d := d + 1) (isR_r hj) hq2) (fun μ1 ⟨e1, e2⟩ => ?_)
          have hs := sP.of (P := fun b => b = 73 + 2 * j ∨ b = 74 + 2 * j) e1 (fun b hb => by simp at hb; omega)
          refine tr_iload_n dX7_row_35 rfl ?_
          -- at 36: .ireturn
          refine tr_iret dX7_row_36 (by first | exact trivial | rfl) ?_
          have e : S_row σ (nI j) (nI q) = (nI q, gR σ j (some (q, fun _ => 0))) := by
            rw [S_row, hr]
            dsimp only
            rw [if_neg (Int32.not_lt.mpr h2), if_neg (nI_pos hq), nI_clamp hq]
          rw [e]
          exact ⟨rfl, h.row hs hj e2, hs.fr (fun b hb => by omega)⟩
        · refine tr_aload_n dX7_row_19 rfl ?_
          refine tr_iconst (v := nI 5) dX7_row_20 (by decide) ?_
          -- at 21: .invokevirtual 88
          refine tr_Vi (As := [_]) dX7_row_21 fm_RX7_88 rfl rfl (by first | assumption | decide) (by first | assumption | rfl) (Nat.le_of_ble_eq_true rfl) (c_found (d := d + 1) (k := 5) (by omega) h) (fun v μ1 ⟨e1, e2, e3⟩ => ?_)
          refine tr_iret dX7_row_24 (by first | exact trivial | rfl) ?_
          have e : S_row σ (nI j) x = (-3, gF σ 5) := by
            rw [S_row, hr]
            dsimp only
            rw [if_neg (Int32.not_lt.mpr h2), if_pos (Int32.not_le.mp h3)]
          rw [e]
          exact ⟨e1, e2, e3⟩
      · refine tr_iconst (v := -1) dX7_row_13 (by decide) ?_
        -- at 14: .ireturn
        refine tr_iret dX7_row_14 (by first | exact trivial | rfl) (po_same h (by rw [S_row, hr]; dsimp only; rw [if_pos (Int32.not_le.mp h2)]))
-- lay, at, tear
def S_lay (σ : SG) (r i v : Int32) : Int32 × SG := match ixV r 6 with
  | none => (-1, σ)
  | some j => match sR σ j with
    | none => (-3, gF σ 1)
    | some (n, f) => match ixV i n with
      | none => (-3, gF σ 2)
      | some q => (1, gA (gR σ j (some (n, upd f q v))) (f q))
def S_at (σ : SG) (r i : Int32) : Int32 × SG := match ixV r 6 with
  | none => (-1, σ)
  | some j => match sR σ j with
    | none => (-3, gF σ 1)
    | some (n, f) => match ixV i n with
      | none => (-3, gF σ 2)
      | some q => (1, gA σ (f q))
def S_tear (σ : SG) (r : Int32) : Int32 × SG := match ixV r 6 with
  | none => (-1, σ)
  | some j => match sR σ j with
    | none => (-3, gF σ 1)
    | some _ => (1, gR σ j none)
theorem f_at (h : CI μ σ) : cp X (d + 4) kX7_at [.ref 2, .int r, .int x] μ (PO μ (S_at σ r x)) := by
  refine cp_of ok_X7_at (L := [.ref 2, .int r, .int x, .float 0]) rfl ?_
  refine tr_aload_n dX7_at_0 rfl ?_
  refine tr_iload_n dX7_at_1 rfl ?_
  refine tr_iload_n dX7_at_2 rfl ?_
  -- at 3: .invokevirtual 96
  cases hr : ixV r 6 with
  | none =>
    refine tr_Vi (As := [_, _]) dX7_at_3 fm_RX7_96 rfl rfl (by first | assumption | decide) (by first | assumption | rfl) (Nat.le_of_ble_eq_true rfl) (c_placeRef0 (d := d) hr) (fun v μ1 ⟨e1, e2⟩ => ?_)
    subst μ1; subst v
    refine tr_istore_n_3 dX7_at_6 (by decide) rfl ?_
    refine tr_iload_n dX7_at_7 rfl ?_
    -- at 8: .ifCond .eq 5
    refine tr_if_eq (tgt := 13) dX7_at_8 (by decide) (fun h1 => ?_) (fun h1 => ?_)
    · exact absurd h1 (by first | exact m3_ne | decide)
    · refine tr_iload_n dX7_at_11 rfl ?_
      -- at 12: .ireturn
      refine tr_iret dX7_at_12 (by first | exact trivial | rfl) (po_same h (by rw [S_at, hr]))
  | some j =>
    obtain ⟨rfl, hj⟩ := ixV_some (by omega) hr
    cases ho : sR σ j with
    | none =>
      refine tr_Vi (As := [_, _]) dX7_at_3 fm_RX7_96 rfl rfl (by first | assumption | decide) (by first | assumption | rfl) (Nat.le_of_ble_eq_true rfl) (c_placeRef1 (d := d) h hj ho) (fun v μ1 ⟨e1, e2, e3⟩ => ?_)
      subst v
      refine tr_istore_n_3 dX7_at_6 (by decide) rfl ?_
      refine tr_iload_n dX7_at_7 rfl ?_
      -- at 8: .ifCond .eq 5
      refine tr_if_eq (tgt := 13) dX7_at_8 (by decide) (fun h1 => ?_) (fun h1 => ?_)
      · exact absurd h1 (by first | exact m3_ne | decide)
      · refine tr_iload_n dX7_at_11 rfl ?_
        -- at 12: .ireturn
        refine tr_iret dX7_at_12 (by first | exact trivial | rfl) ?_
        have e : S_at σ (nI j) x = (-3, gF σ 1) := by simp only [S_at, hr, ho]
        rw [e]
        exact ⟨rfl, e2, e3⟩
    | some w =>
      obtain ⟨n, f⟩ := w
      have hX := h.1 j hj
      rw [ho] at hX
      have r2 := hX.2.1
      cases hx : ixV x n with
      | none =>
        refine tr_Vi (As := [_, _]) dX7_at_3 fm_RX7_96 rfl rfl (by first | assumption | decide) (by first | assumption | rfl) (Nat.le_of_ble_eq_true rfl) (c_placeRef2 (d := d) h hj ho hx) (fun v μ1 ⟨e1, e2, e3⟩ => ?_)
        subst v
        refine tr_istore_n_3 dX7_at_6 (by decide) rfl ?_
        refine tr_iload_n dX7_at_7 rfl ?_
        -- at 8: .ifCond .eq 5
        refine tr_if_eq (tgt := 13) dX7_at_8 (by decide) (fun h1 => ?_) (fun h1 => ?_)
        · exact absurd h1 (by first | exact m3_ne | decide)
        · refine tr_iload_n dX7_at_11 rfl ?_
          -- at 12: .ireturn
          refine tr_iret dX7_at_12 (by first | exact trivial | rfl) ?_
          have e : S_at σ (nI j) x = (-3, gF σ 2) := by simp only [S_at, hr, ho, hx]
          rw [e]
          exact ⟨rfl, e2, e3⟩
      | some q =>
        obtain ⟨rfl, hq⟩ := ixV_some (by omega) hx
        have r3 := hX.2.2 q hq
        obtain ⟨⟨i0, i1⟩, s0, s1⟩ := isR_r hj
        refine tr_Vi (As := [_, _]) dX7_at_3 fm_RX7_96 rfl rfl (by first | assumption | decide) (by first | assumption | rfl) (Nat.le_of_ble_eq_true rfl) (c_placeRef3 (d := d) h hj ho hq) (fun v μ1 ⟨e1, e2⟩ => ?_)
        subst μ1; subst v
        refine tr_istore_n_3 dX7_at_6 (by decide) rfl ?_
        refine tr_iload_n dX7_at_7 rfl ?_
        -- at 8: .ifCond .eq 5
        refine tr_if0N (tgt := 13) dX7_at_8 (by decide) (by omega) (fun h1 => ?_) (fun h1 => ?_)
        · refine tr_aload_n dX7_at_13 rfl ?_
          refine tr_aload_n dX7_at_14 rfl ?_
          refine tr_getR dX7_at_15 fg_RX7_11 (by first | assumption | decide) (by first | assumption | rfl) rfl (by omega) ?_
          refine tr_iload_n dX7_at_18 rfl ?_
          -- at 19: .aaload
          refine tr_aald dX7_at_19 (by first | assumption | decide) (by first | assumption | rfl) (by decide) rfl (row_at hj) (by decide) ?_
          refine tr_getR dX7_at_20 fg_RX7_100 (by first | assumption | decide) (by first | assumption | rfl) rfl (by omega) ?_
          refine tr_iload_n dX7_at_23 rfl ?_
          refine tr_iald dX7_at_24 (by first | assumption | decide) (by first | assumption | rfl) rfl (by omega) (by omega) (by first | assumption | rfl) ?_
          refine tr_putI dX7_at_25 fp_RX7_103 (by first | assumption | decide) (by first | assumption | rfl) rfl ?_
          refine tr_iconst (v := nI 1) dX7_at_28 (by decide) ?_
          -- at 29: .ireturn
          refine tr_iret dX7_at_29 (by first | exact trivial | rfl) ?_
          have e : S_at σ (nI j) (nI q) = (1, gA σ (f q)) := by simp only [S_at, hr, ho, hx]
          rw [e]
          exact ⟨rfl, h.asked _, (((sP.rf (fun b => b = 2) μ).put _ rfl)).fr (fun b hb => by omega)⟩
        · omega
theorem f_lay (h : CI μ σ) : cp X (d + 4) kX7_lay [.ref 2, .int r, .int x, .int y] μ (PO μ (S_lay σ r x y)) := by
  refine cp_of ok_X7_lay (L := [.ref 2, .int r, .int x, .int y, .float 0]) rfl ?_
  refine tr_aload_n dX7_lay_0 rfl ?_
  refine tr_iload_n dX7_lay_1 rfl ?_
  refine tr_iload_n dX7_lay_2 rfl ?_
  -- at 3: .invokevirtual 96
  cases hr : ixV r 6 with
  | none =>
    refine tr_Vi (As := [_, _]) dX7_lay_3 fm_RX7_96 rfl rfl (by first | assumption | decide) (by first | assumption | rfl) (Nat.le_of_ble_eq_true rfl) (c_placeRef0 (d := d) hr) (fun v μ1 ⟨e1, e2⟩ => ?_)
    subst μ1; subst v
    refine tr_istore_4 dX7_lay_6 (by decide) rfl ?_
    refine tr_iload dX7_lay_8 rfl ?_
    -- at 10: .ifCond .eq 6
    refine tr_if_eq (tgt := 16) dX7_lay_10 (by decide) (fun h1 => ?_) (fun h1 => ?_)
    · exact absurd h1 (by first | exact m3_ne | decide)
    · refine tr_iload dX7_lay_13 rfl ?_
      -- at 15: .ireturn
      refine tr_iret dX7_lay_15 (by first | exact trivial | rfl) (po_same h (by rw [S_lay, hr]))
  | some j =>
    obtain ⟨rfl, hj⟩ := ixV_some (by omega) hr
    cases ho : sR σ j with
    | none =>
      refine tr_Vi (As := [_, _]) dX7_lay_3 fm_RX7_96 rfl rfl (by first | assumption | decide) (by first | assumption | rfl) (Nat.le_of_ble_eq_true rfl) (c_placeRef1 (d := d) h hj ho) (fun v μ1 ⟨e1, e2, e3⟩ => ?_)
      subst v
      refine tr_istore_4 dX7_lay_6 (by decide) rfl ?_
      refine tr_iload dX7_lay_8 rfl ?_
      -- at 10: .ifCond .eq 6
      refine tr_if_eq (tgt := 16) dX7_lay_10 (by decide) (fun h1 => ?_) (fun h1 => ?_)
      · exact absurd h1 (by first | exact m3_ne | decide)
      · refine tr_iload dX7_lay_13 rfl ?_
        -- at 15: .ireturn
        refine tr_iret dX7_lay_15 (by first | exact trivial | rfl) ?_
        have e : S_lay σ (nI j) x y = (-3, gF σ 1) := by simp only [S_lay, hr, ho]
        rw [e]
        exact ⟨rfl, e2, e3⟩
    | some w =>
      obtain ⟨n, f⟩ := w
      have hX := h.1 j hj
      rw [ho] at hX
      have r2 := hX.2.1
      cases hx : ixV x n with
      | none =>
        refine tr_Vi (As := [_, _]) dX7_lay_3 fm_RX7_96 rfl rfl (by first | assumption | decide) (by first | assumption | rfl) (Nat.le_of_ble_eq_true rfl) (c_placeRef2 (d := d) h hj ho hx) (fun v μ1 ⟨e1, e2, e3⟩ => ?_)
        subst v
        refine tr_istore_4 dX7_lay_6 (by decide) rfl ?_
        refine tr_iload dX7_lay_8 rfl ?_
        -- at 10: .ifCond .eq 6
        refine tr_if_eq (tgt := 16) dX7_lay_10 (by decide) (fun h1 => ?_) (fun h1 => ?_)
        · exact absurd h1 (by first | exact m3_ne | decide)
        · refine tr_iload dX7_lay_13 rfl ?_
          -- at 15: .ireturn
          refine tr_iret dX7_lay_15 (by first | exact trivial | rfl) ?_
          have e : S_lay σ (nI j) x y = (-3, gF σ 2) := by simp only [S_lay, hr, ho, hx]
          rw [e]
          exact ⟨rfl, e2, e3⟩
      | some q =>
        obtain ⟨rfl, hq⟩ := ixV_some (by omega) hx
        have r3 := hX.2.2 q hq
        obtain ⟨⟨i0, i1⟩, s0, s1⟩ := isR_r hj
        refine tr_Vi (As := [_, _]) dX7_lay_3 fm_RX7_96 rfl rfl (by first | assumption | decide) (by first | assumption | rfl) (Nat.le_of_ble_eq_true rfl) (c_placeRef3 (d := d) h hj ho hq) (fun v μ1 ⟨e1, e2⟩ => ?_)
        subst μ1; subst v
        refine tr_istore_4 dX7_lay_6 (by decide) rfl ?_
        refine tr_iload dX7_lay_8 rfl ?_
        -- at 10: .ifCond .eq 6
        refine tr_if0N (tgt := 16) dX7_lay_10 (by decide) (by omega) (fun h1 => ?_) (fun h1 => ?_)
        · refine tr_aload_n dX7_lay_16 rfl ?_
          refine tr_aload_n dX7_lay_17 rfl ?_
          refine tr_getR dX7_lay_18 fg_RX7_11 (by first | assumption | decide) (by first | assumption | rfl) rfl (by omega) ?_
          refine tr_iload_n dX7_lay_21 rfl ?_
          -- at 22: .aaload
          refine tr_aald dX7_lay_22 (by first | assumption | decide) (by first | assumption | rfl) (by decide) rfl (row_at hj) (by decide) ?_
          refine tr_getR dX7_lay_23 fg_RX7_100 (by first | assumption | decide) (by first | assumption | rfl) rfl (by omega) ?_
          refine tr_iload_n dX7_lay_26 rfl ?_
          refine tr_iald dX7_lay_27 (by first | assumption | decide) (by first | assumption | rfl) rfl (by omega) (by omega) (by first | assumption | rfl) ?_
          refine tr_putI dX7_lay_28 fp_RX7_103 (by first | assumption | decide) (by first | assumption | rfl) rfl ?_
          refine tr_aload_n dX7_lay_31 rfl ?_
          refine tr_getR dX7_lay_32 fg_RX7_11 (by first | assumption | decide) (by first | assumption | rfl) rfl (by omega) ?_
          refine tr_iload_n dX7_lay_35 rfl ?_
          -- at 36: .aaload
          have hc1 := h.asked (f q)
          have hf1 : fr μ (sI μ 2 (upd (μ.1 2) 15 (f q))) := (((sP.rf (fun b => b = 2) μ).put _ rfl)).fr (fun b hb => by omega)
          generalize sI μ 2 (upd (μ.1 2) 15 (f q)) = μ1 at hc1 hf1 ⊢
          refine tr_aald dX7_lay_36 (by first | assumption | decide) (by first | assumption | rfl) (by decide) rfl (row_at hj) (by decide) ?_
          refine tr_getR dX7_lay_37 fg_RX7_100 (by first | assumption | decide) (by first | assumption | rfl) rfl (by omega) ?_
          refine tr_iload_n dX7_lay_40 rfl ?_
          refine tr_iload_n dX7_lay_41 rfl ?_
          refine tr_iast dX7_lay_42 (by first | assumption | decide) (by first | assumption | rfl) rfl (by omega) (by omega) ?_
          refine tr_iconst (v := nI 1) dX7_lay_43 (by decide) ?_
          -- at 44: .ireturn
          refine tr_iret dX7_lay_44 (by first | exact trivial | rfl) ?_
          have e : S_lay σ (nI j) (nI q) y = (1, gA (gR σ j (some (n, upd f q y))) (f q)) := by simp only [S_lay, hr, ho, hx]
          rw [e]
          have hX1 := hc1.1 j hj
          rw [show sR (gA σ (f q)) j = some (n, f) from ho] at hX1
          have hs := (sP.rf (fun b => b = 73 + 2 * j ∨ b = 74 + 2 * j) μ1).put (a := 73 + 2 * j + 1) (upd (μ1.1 (73 + 2 * j + 1)) q y) (by omega)
          refine ⟨rfl, hc1.row (o := some (n, upd f q y)) hs hj ⟨?_, r2, fun i hi => ?_⟩, hf1.trans (hs.fr (fun b hb => by omega))⟩
          · rw [sI_ne _ _ (by omega)]; exact hX1.1
          · rw [sI_same]
            by_cases e : i = q
            · subst e; rw [pk_us, pk_us]
            · rw [pk_un e, pk_un e]; exact hX1.2.2 i hi
        · omega
theorem f_tear (h : CI μ σ) : cp X (d + 4) kX7_tear [.ref 2, .int r] μ (PO μ (S_tear σ r)) := by
  refine cp_of ok_X7_tear (L := [.ref 2, .int r, .float 0]) rfl ?_
  refine tr_aload_n dX7_tear_0 rfl ?_
  refine tr_iload_n dX7_tear_1 rfl ?_
  -- at 2: .invokevirtual 106
  cases hr : ixV r 6 with
  | none =>
    refine tr_Vi (As := [_]) dX7_tear_2 fm_RX7_106 rfl rfl (by first | assumption | decide) (by first | assumption | rfl) (Nat.le_of_ble_eq_true rfl) (c_rowRef0 (d := d + 1) hr) (fun v μ1 ⟨e1, e2⟩ => ?_)
    subst μ1; subst v
    refine tr_istore_n_2 dX7_tear_5 (by decide) rfl ?_
    refine tr_iload_n dX7_tear_6 rfl ?_
    -- at 7: .ifCond .eq 5
    refine tr_if_eq (tgt := 12) dX7_tear_7 (by decide) (fun h1 => ?_) (fun h1 => ?_)
    · exact absurd h1 (by first | exact m3_ne | decide)
    · refine tr_iload_n dX7_tear_10 rfl ?_
      -- at 11: .ireturn
      refine tr_iret dX7_tear_11 (by first | exact trivial | rfl) (po_same h (by rw [S_tear, hr]))
  | some j =>
    obtain ⟨rfl, hj⟩ := ixV_some (by omega) hr
    cases ho : sR σ j with
    | none =>
      refine tr_Vi (As := [_]) dX7_tear_2 fm_RX7_106 rfl rfl (by first | assumption | decide) (by first | assumption | rfl) (Nat.le_of_ble_eq_true rfl) (c_rowRef1 (d := d + 1) h hj ho) (fun v μ1 ⟨e1, e2, e3⟩ => ?_)
      subst v
      refine tr_istore_n_2 dX7_tear_5 (by decide) rfl ?_
      refine tr_iload_n dX7_tear_6 rfl ?_
      -- at 7: .ifCond .eq 5
      refine tr_if_eq (tgt := 12) dX7_tear_7 (by decide) (fun h1 => ?_) (fun h1 => ?_)
      · exact absurd h1 (by first | exact m3_ne | decide)
      · refine tr_iload_n dX7_tear_10 rfl ?_
        -- at 11: .ireturn
        refine tr_iret dX7_tear_11 (by first | exact trivial | rfl) ?_
        have e : S_tear σ (nI j) = (-3, gF σ 1) := by simp only [S_tear, hr, ho]
        rw [e]
        exact ⟨rfl, e2, e3⟩
    | some w =>
      obtain ⟨n, f⟩ := w
      obtain ⟨⟨i0, i1⟩, s0, s1⟩ := isR_r hj
      refine tr_Vi (As := [_]) dX7_tear_2 fm_RX7_106 rfl rfl (by first | assumption | decide) (by first | assumption | rfl) (Nat.le_of_ble_eq_true rfl) (c_rowRef2 (d := d + 1) h hj ho) (fun v μ1 ⟨e1, e2⟩ => ?_)
      subst μ1; subst v
      refine tr_istore_n_2 dX7_tear_5 (by decide) rfl ?_
      refine tr_iload_n dX7_tear_6 rfl ?_
      -- at 7: .ifCond .eq 5
      refine tr_if0N (tgt := 12) dX7_tear_7 (by decide) (by omega) (fun h1 => ?_) (fun h1 => ?_)
      · refine tr_aload_n dX7_tear_12 rfl ?_
        refine tr_getR dX7_tear_13 fg_RX7_11 (by first | assumption | decide) (by first | assumption | rfl) rfl (by omega) ?_
        refine tr_iload_n dX7_tear_16 rfl ?_
        -- at 17: .aaload
        refine tr_aald dX7_tear_17 (by first | assumption | decide) (by first | assumption | rfl) (by decide) rfl (row_at hj) (by decide) ?_
        refine tr_iconst (v := -1) dX7_tear_18 (by decide) ?_
        refine tr_putI dX7_tear_19 fp_RX7_109 (by first | assumption | decide) (by first | assumption | rfl) rfl ?_
        refine tr_iconst (v := nI 1) dX7_tear_22 (by decide) ?_
        -- at 23: .ireturn
        refine tr_iret dX7_tear_23 (by first | exact trivial | rfl) ?_
        have e : S_tear σ (nI j) = (1, gR σ j none) := by simp only [S_tear, hr, ho]
        rw [e]
        have hs := (sP.rf (fun b => b = 73 + 2 * j ∨ b = 74 + 2 * j) μ).put (a := 73 + 2 * j) (upd (μ.1 (73 + 2 * j)) 1 (-1)) (by omega)
        refine ⟨rfl, h.row (o := none) hs hj ?_, hs.fr (fun b hb => by omega)⟩
        show (sI μ (73 + 2 * j) (upd (μ.1 (73 + 2 * j)) 1 (-1))).1 (73 + 2 * j) 1 = -1
        rw [sI_same, pk_us]
      · omega
end F1
