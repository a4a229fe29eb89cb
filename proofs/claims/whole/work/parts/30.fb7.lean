-- ===== FlapBoard: what is told =====
def thM (g : Nat → Bool) : Nat → Nat
  | 0 => 0
  | k + 1 => thM g k + bN (!g k)
theorem thM_le (g : Nat → Bool) : ∀ k, thM g k ≤ k
  | 0 => Nat.le_refl 0
  | k + 1 => by
    have := thM_le g k
    rw [thM]
    have : bN (!g k) ≤ 1 := by unfold bN; split <;> omega
    omega
def noneK (o : Option (List Nat)) : Bool := match o with
  | none => true
  | some _ => false
def szK (o : Option (List Nat)) : Int32 := match o with
  | none => -1
  | some l => nI l.length
theorem KR.sz {μ : am_M} {a : Nat} {o : Option (List Nat)} (h : KR μ a o) : μ.1 a 1 = szK o := by
  cases o with
  | none => exact h
  | some l => exact h.2.1
def cntV (σ : SG) : Nat → Int32
  | 0 => nI (nowM σ 18)
  | 1 => nI (nowM σ 1)
  | 2 => nI (sL σ).length
  | 3 => nI (numM (nowM σ) (nowM σ 18))
  | 4 => nI (nowM σ 2)
  | 5 => nI (nowM σ 3)
  | 6 => nI (rtM (nowM σ) (nowM σ 18))
  | 7 => nI (nowM σ 0)
  | 8 => nI (thM (fun r => noneR (sR σ r)) 6)
  | 9 => nI (thM (fun t => noneR (sT σ t)) 4)
  | 10 => nI (thM (fun k => noneK (sK σ k)) 3)
  | 11 => nI (cntM (nowM σ) 1 (nowM σ 18))
  | _ => nI (cntM (nowM σ) 2 (nowM σ 18))
def S_count (σ : SG) (w : Int32) : Int32 × SG := match ixV w 13 with
  | some q => (cntV σ q, σ)
  | none => (-1, σ)
def S_findings (σ : SG) (w : Int32) : Int32 × SG := if 1 ≤ w ∧ w ≤ 5 then (sC σ w.toNatClampNeg, σ) else (-1, σ)
def dgO (o : RV) (hh : Int64) : Int64 := match o with
  | none => lN 31 * hh + (-1 : Int32).toInt64
  | some (n, f) => dgM f n (lN 31 * hh + (nI n).toInt64)
def dgR (o : Nat → RV) : Nat → Int64 → Int64
  | 0, h => h
  | r + 1, h => dgO (o r) (dgR o r h)
def dgD (c : NF) : Nat → Int64 → Int64
  | 0, h => h
  | i + 1, h => dgM (fun q => nI (dfM c i q)) 7 (dgD c i h)
def digM (σ : SG) : Int64 := dgR (sT σ) 4 (dgR (sR σ) 6 (dgM (fun k => szK (sK σ k)) 3 (dgD (nowM σ) (nowM σ 18) (dgM (cntV σ) 13 (lN 17)))))
section F7
variable {X : Nat × (Nat → Int32)} {d : Nat} {μ : am_M} {σ : SG} {r x y z w : Int32} {i j n : Nat} {f : Nat → Int32}
theorem f_asked (h : CI μ σ) : cp X (d + 1) kX7_asked [.ref 2] μ (PO μ (sA σ, σ)) := by
  have k1 := h.2.2.2.2.2.2.1
  refine cp_of ok_X7_asked (L := [.ref 2]) rfl ?_
  refine tr_aload_n dX7_asked_0 rfl ?_
  refine tr_getI dX7_asked_1 fg_RX7_103 (by first | assumption | decide) (by first | assumption | rfl) rfl (by first | assumption | rfl) ?_
  -- at 4: .ireturn
  refine tr_iret dX7_asked_4 (by first | exact trivial | rfl) (po_same h rfl)
theorem f_upper (h : CI μ σ) : cp X (d + 1) kX7_upper [.ref 2] μ (ql (fun v μ' => μ' = μ ∧ v = sU σ)) := by
  have k1 := h.2.2.2.2.2.2.2.2.2.1
  refine cp_of ok_X7_upper (L := [.ref 2]) rfl ?_
  refine tr_aload_n dX7_upper_0 rfl ?_
  refine tr_getR dX7_upper_1 fg_RX7_71 (by first | assumption | decide) (by first | assumption | rfl) rfl (by omega) ?_
  refine tr_getJ dX7_upper_4 fg_RX7_293 (by first | assumption | decide) (by first | assumption | rfl) rfl (by first | assumption | rfl) ?_
  -- at 7: .lreturn
  refine tr_lret dX7_upper_7 (by first | exact trivial | rfl) ⟨rfl, rfl⟩
theorem f_lower (h : CI μ σ) : cp X (d + 1) kX7_lower [.ref 2] μ (ql (fun v μ' => μ' = μ ∧ v = sW σ)) := by
  have k1 := h.2.2.2.2.2.2.2.2.2.2
  refine cp_of ok_X7_lower (L := [.ref 2]) rfl ?_
  refine tr_aload_n dX7_lower_0 rfl ?_
  refine tr_getR dX7_lower_1 fg_RX7_71 (by first | assumption | decide) (by first | assumption | rfl) rfl (by omega) ?_
  refine tr_getJ dX7_lower_4 fg_RX7_297 (by first | assumption | decide) (by first | assumption | rfl) rfl (by first | assumption | rfl) ?_
  -- at 7: .lreturn
  refine tr_lret dX7_lower_7 (by first | exact trivial | rfl) ⟨rfl, rfl⟩
theorem f_finding (h : CI μ σ) : cp X (d + 1) kX7_finding [.ref 2] μ (PO μ (sF σ, σ)) := by
  have k1 := h.2.2.2.2.2.2.2.1
  refine cp_of ok_X7_finding (L := [.ref 2]) rfl ?_
  refine tr_aload_n dX7_finding_0 rfl ?_
  refine tr_getI dX7_finding_1 fg_RX7_303 (by first | assumption | decide) (by first | assumption | rfl) rfl (by first | assumption | rfl) ?_
  -- at 4: .ireturn
  refine tr_iret dX7_finding_4 (by first | exact trivial | rfl) (po_same h rfl)
theorem f_findings (h : CI μ σ) : cp X (d + 1) kX7_findings [.ref 2, .int x] μ (PO μ (S_findings σ x)) := by
  have k1 := h.2.2.2.2.2.2.2.2.1
  refine cp_of ok_X7_findings (L := [.ref 2, .int x]) rfl ?_
  refine tr_iload_n dX7_findings_0 rfl ?_
  refine tr_iconst (v := nI 1) dX7_findings_1 (by decide) ?_
  -- at 2: .if_icmp .lt 8
  refine tr_icmp_lt (tgt := 10) dX7_findings_2 (by decide) (fun h1 => ?_) (fun h1 => ?_)
  · refine tr_iconst (v := -1) dX7_findings_10 (by decide) ?_
    refine tr_goto (tgt := 20) dX7_findings_11 (by decide) ?_
    -- at 20: .ireturn
    refine tr_iret dX7_findings_20 (by first | exact trivial | rfl) (po_same h (by rw [S_findings, if_neg (fun q => absurd q.1 (Int32.not_le.mpr h1))]))
  · refine tr_iload_n dX7_findings_5 rfl ?_
    refine tr_iconst (v := nI 5) dX7_findings_6 (by decide) ?_
    -- at 7: .if_icmp .le 7
    refine tr_icmp_le (tgt := 14) dX7_findings_7 (by decide) (fun h2 => ?_) (fun h2 => ?_)
    · have h1' := Int32.not_lt.mp h1
      have e : S_findings σ x = (sC σ x.toNatClampNeg, σ) := by rw [S_findings, if_pos ⟨h1', h2⟩]
      rw [e]
      obtain ⟨q, hq, rfl⟩ := nI_of (x := x) (Int32.not_lt.mpr (Int32.le_trans (by decide) h1'))
      have hq5 : q ≤ 5 := (nI_leI (b := 5) hq (by omega)).mp h2
      have k2 := k1 q (by omega)
      rw [nI_clamp hq]
      refine tr_aload_n dX7_findings_14 rfl ?_
      refine tr_getR dX7_findings_15 fg_RX7_75 (by first | assumption | decide) (by first | assumption | rfl) rfl (by omega) ?_
      refine tr_iload_n dX7_findings_18 rfl ?_
      refine tr_iald dX7_findings_19 (by first | assumption | decide) (by first | assumption | rfl) rfl (by omega) (by omega) (by first | assumption | rfl) ?_
      -- at 20: .ireturn
      refine tr_iret dX7_findings_20 (by first | exact trivial | rfl) (po_same h rfl)
    · refine tr_iconst (v := -1) dX7_findings_10 (by decide) ?_
      refine tr_goto (tgt := 20) dX7_findings_11 (by decide) ?_
      -- at 20: .ireturn
      refine tr_iret dX7_findings_20 (by first | exact trivial | rfl) (po_same h (by rw [S_findings, if_neg (fun q => h2 q.2)]))
theorem l_rth (h : CI μ σ) : ∀ (m k : Nat), k + m = 6 → tw X (d + 1) kX7_rowsThere (qi (fun v μ' => μ' = μ ∧ v = nI (thM (fun r => noneR (sR σ r)) 6))) 4 [.ref 2, .int (nI (thM (fun r => noneR (sR σ r)) k)), .int (nI k)] [] μ
  | m, k, hkm => by
    have hle := thM_le (fun r => noneR (sR σ r)) k
    refine tr_iload_n dX7_rowsThere_4 rfl ?_
    refine tr_bipush (v := nI 6) dX7_rowsThere_5 (by decide) ?_
    -- at 7: .if_icmp .ge 29
    refine tr_geN (tgt := 36) dX7_rowsThere_7 (by decide) (by omega) (by omega) (fun h1 => ?_) (fun h1 => ?_)
    · obtain rfl : k = 6 := by omega
      refine tr_iload_n dX7_rowsThere_36 rfl ?_
      -- at 37: .ireturn
      refine tr_iret dX7_rowsThere_37 (by first | exact trivial | rfl) ⟨rfl, rfl⟩
    · obtain ⟨⟨i0, i1⟩, s0, s1⟩ := isR_r h1
      refine tr_iload_n dX7_rowsThere_10 rfl ?_
      refine tr_aload_n dX7_rowsThere_11 rfl ?_
      refine tr_getR dX7_rowsThere_12 fg_RX7_11 (by first | assumption | decide) (by first | assumption | rfl) rfl (by omega) ?_
      refine tr_iload_n dX7_rowsThere_15 rfl ?_
      -- at 16: .aaload
      refine tr_aald dX7_rowsThere_16 (by first | assumption | decide) (by first | assumption | rfl) (by decide) rfl (row_at h1) (by decide) ?_
      refine tr_Vi (As := []) dX7_rowsThere_17 fm_RX7_110 rfl rfl (by first | assumption | decide) (by first | assumption | rfl) (Nat.le_of_ble_eq_true rfl) (c_rmiss (d := d) (isR_r h1) (h.1 k h1)) (fun v μ1 ⟨e1, e2⟩ => ?_)
      subst μ1; subst v
      refine tr_ifb0 (tgt := 27) dX7_rowsThere_20 (by decide) (fun h2 => ?_) (fun h2 => ?_)
      · refine tr_iconst (v := nI 1) dX7_rowsThere_27 (by decide) ?_
        first | with_reducible refine tr_iaddN dX7_rowsThere_28 ?_ | refine tr_iadd dX7_rowsThere_28 ?_
        -- at 29: .istore_n 1
        rw [show thM (fun r => noneR (sR σ r)) k + 1 = thM (fun r => noneR (sR σ r)) (k + 1) by rw [thM, h2]; rfl]
        refine tr_istore_n_1 dX7_rowsThere_29 (by decide) rfl ?_
        first | with_reducible refine tr_iincN_2 dX7_rowsThere_30 (by decide) rfl ?_ | refine tr_iinc_2 dX7_rowsThere_30 (by decide) rfl ?_
        refine tr_goto (tgt := 4) dX7_rowsThere_33 (by decide) ?_
        -- at 4: .iload_n 2
        exact l_rth h (m - 1) (k + 1) (by omega)
      · refine tr_iconst (v := nI 0) dX7_rowsThere_23 (by decide) ?_
        refine tr_goto (tgt := 28) dX7_rowsThere_24 (by decide) ?_
        first | with_reducible refine tr_iaddN dX7_rowsThere_28 ?_ | refine tr_iadd dX7_rowsThere_28 ?_
        -- at 29: .istore_n 1
        rw [show thM (fun r => noneR (sR σ r)) k + 0 = thM (fun r => noneR (sR σ r)) (k + 1) by rw [thM, h2]; rfl]
        refine tr_istore_n_1 dX7_rowsThere_29 (by decide) rfl ?_
        first | with_reducible refine tr_iincN_2 dX7_rowsThere_30 (by decide) rfl ?_ | refine tr_iinc_2 dX7_rowsThere_30 (by decide) rfl ?_
        refine tr_goto (tgt := 4) dX7_rowsThere_33 (by decide) ?_
        -- at 4: .iload_n 2
        exact l_rth h (m - 1) (k + 1) (by omega)
  termination_by m => m
theorem c_rth (h : CI μ σ) : cp X (d + 2) kX7_rowsThere [.ref 2] μ (qi (fun v μ' => μ' = μ ∧ v = nI (thM (fun r => noneR (sR σ r)) 6))) := by
  refine cp_of ok_X7_rowsThere (L := [.ref 2, .float 0, .float 0]) rfl ?_
  refine tr_iconst (v := nI 0) dX7_rowsThere_0 (by decide) ?_
  refine tr_istore_n_1 dX7_rowsThere_1 (by decide) rfl ?_
  refine tr_iconst (v := nI 0) dX7_rowsThere_2 (by decide) ?_
  refine tr_istore_n_2 dX7_rowsThere_3 (by decide) rfl ?_
  -- at 4: .iload_n 2
  exact l_rth h 6 0 (by omega)
theorem l_tth (h : CI μ σ) : ∀ (m k : Nat), k + m = 4 → tw X (d + 1) kX7_textsThere (qi (fun v μ' => μ' = μ ∧ v = nI (thM (fun r => noneR (sT σ r)) 4))) 4 [.ref 2, .int (nI (thM (fun r => noneR (sT σ r)) k)), .int (nI k)] [] μ
  | m, k, hkm => by
    have hle := thM_le (fun r => noneR (sT σ r)) k
    refine tr_iload_n dX7_textsThere_4 rfl ?_
    refine tr_iconst (v := nI 4) dX7_textsThere_5 (by decide) ?_
    -- at 6: .if_icmp .ge 29
    refine tr_geN (tgt := 35) dX7_textsThere_6 (by decide) (by omega) (by omega) (fun h1 => ?_) (fun h1 => ?_)
    · obtain rfl : k = 4 := by omega
      refine tr_iload_n dX7_textsThere_35 rfl ?_
      -- at 36: .ireturn
      refine tr_iret dX7_textsThere_36 (by first | exact trivial | rfl) ⟨rfl, rfl⟩
    · obtain ⟨⟨i0, i1⟩, s0, s1⟩ := isT_t h1
      refine tr_iload_n dX7_textsThere_9 rfl ?_
      refine tr_aload_n dX7_textsThere_10 rfl ?_
      refine tr_getR dX7_textsThere_11 fg_RX7_17 (by first | assumption | decide) (by first | assumption | rfl) rfl (by omega) ?_
      refine tr_iload_n dX7_textsThere_14 rfl ?_
      -- at 15: .aaload
      refine tr_aald dX7_textsThere_15 (by first | assumption | decide) (by first | assumption | rfl) (by decide) rfl (text_at h1) (by decide) ?_
      refine tr_Vi (As := []) dX7_textsThere_16 fm_RX7_315 rfl rfl (by first | assumption | decide) (by first | assumption | rfl) (Nat.le_of_ble_eq_true rfl) (c_tmiss (d := d) (isT_t h1) (h.2.1 k h1)) (fun v μ1 ⟨e1, e2⟩ => ?_)
      subst μ1; subst v
      refine tr_ifb0 (tgt := 26) dX7_textsThere_19 (by decide) (fun h2 => ?_) (fun h2 => ?_)
      · refine tr_iconst (v := nI 1) dX7_textsThere_26 (by decide) ?_
        first | with_reducible refine tr_iaddN dX7_textsThere_27 ?_ | refine tr_iadd dX7_textsThere_27 ?_
        -- at 28: .istore_n 1
        rw [show thM (fun r => noneR (sT σ r)) k + 1 = thM (fun r => noneR (sT σ r)) (k + 1) by rw [thM, h2]; rfl]
        refine tr_istore_n_1 dX7_textsThere_28 (by decide) rfl ?_
        first | with_reducible refine tr_iincN_2 dX7_textsThere_29 (by decide) rfl ?_ | refine tr_iinc_2 dX7_textsThere_29 (by decide) rfl ?_
        refine tr_goto (tgt := 4) dX7_textsThere_32 (by decide) ?_
        -- at 4: .iload_n 2
        exact l_tth h (m - 1) (k + 1) (by omega)
      · refine tr_iconst (v := nI 0) dX7_textsThere_22 (by decide) ?_
        refine tr_goto (tgt := 27) dX7_textsThere_23 (by decide) ?_
        first | with_reducible refine tr_iaddN dX7_textsThere_27 ?_ | refine tr_iadd dX7_textsThere_27 ?_
        -- at 28: .istore_n 1
        rw [show thM (fun r => noneR (sT σ r)) k + 0 = thM (fun r => noneR (sT σ r)) (k + 1) by rw [thM, h2]; rfl]
        refine tr_istore_n_1 dX7_textsThere_28 (by decide) rfl ?_
        first | with_reducible refine tr_iincN_2 dX7_textsThere_29 (by decide) rfl ?_ | refine tr_iinc_2 dX7_textsThere_29 (by decide) rfl ?_
        refine tr_goto (tgt := 4) dX7_textsThere_32 (by decide) ?_
        -- at 4: .iload_n 2
        exact l_tth h (m - 1) (k + 1) (by omega)
  termination_by m => m
theorem c_tth (h : CI μ σ) : cp X (d + 2) kX7_textsThere [.ref 2] μ (qi (fun v μ' => μ' = μ ∧ v = nI (thM (fun r => noneR (sT σ r)) 4))) := by
  refine cp_of ok_X7_textsThere (L := [.ref 2, .float 0, .float 0]) rfl ?_
  refine tr_iconst (v := nI 0) dX7_textsThere_0 (by decide) ?_
  refine tr_istore_n_1 dX7_textsThere_1 (by decide) rfl ?_
  refine tr_iconst (v := nI 0) dX7_textsThere_2 (by decide) ?_
  refine tr_istore_n_2 dX7_textsThere_3 (by decide) rfl ?_
  -- at 4: .iload_n 2
  exact l_tth h 4 0 (by omega)
theorem szK_m1 (o : Option (List Nat)) (h : ∀ l, o = some l → l.length ≤ 40) : szK o = -1 ↔ noneK o = true := by
  cases o with
  | none => simp [szK, noneK]
  | some l =>
    have := h l rfl
    simp only [szK, noneK]
    constructor
    · intro e; exact absurd e (by
        intro e
        have := nI_pos (n := l.length) (by omega)
        rw [e] at this
        exact this (by decide))
    · intro e; cases e
theorem l_kth (h : CI μ σ) : ∀ (m k : Nat), k + m = 3 → tw X d kX7_keptThere (qi (fun v μ' => μ' = μ ∧ v = nI (thM (fun r => noneK (sK σ r)) 3))) 4 [.ref 2, .int (nI (thM (fun r => noneK (sK σ r)) k)), .int (nI k)] [] μ
  | m, k, hkm => by
    have hle := thM_le (fun r => noneK (sK σ r)) k
    refine tr_iload_n dX7_keptThere_4 rfl ?_
    refine tr_iconst (v := nI 3) dX7_keptThere_5 (by decide) ?_
    -- at 6: .if_icmp .ge 30
    refine tr_geN (tgt := 36) dX7_keptThere_6 (by decide) (by omega) (by omega) (fun h1 => ?_) (fun h1 => ?_)
    · obtain rfl : k = 3 := by omega
      refine tr_iload_n dX7_keptThere_36 rfl ?_
      -- at 37: .ireturn
      refine tr_iret dX7_keptThere_37 (by first | exact trivial | rfl) ⟨rfl, rfl⟩
    · obtain ⟨⟨i0, i1⟩, s0, s1⟩ := isD_k h1
      have hK := h.2.2.2.2.2.1 k h1
      have k1 := hK.sz
      have k2 := szK_m1 (sK σ k) (fun l e => by rw [e] at hK; exact hK.1)
      refine tr_iload_n dX7_keptThere_9 rfl ?_
      refine tr_aload_n dX7_keptThere_10 rfl ?_
      refine tr_getR dX7_keptThere_11 fg_RX7_44 (by first | assumption | decide) (by first | assumption | rfl) rfl (by omega) ?_
      refine tr_iload_n dX7_keptThere_14 rfl ?_
      -- at 15: .aaload
      refine tr_aald dX7_keptThere_15 (by first | assumption | decide) (by first | assumption | rfl) (by decide) rfl (kept_at h1) (by decide) ?_
      refine tr_getI dX7_keptThere_16 fg_RX7_80 (by first | assumption | decide) (by first | assumption | rfl) rfl (by first | assumption | rfl) ?_
      refine tr_iconst (v := -1) dX7_keptThere_19 (by decide) ?_
      -- at 20: .if_icmp .ne 7
      refine tr_icmp_ne (tgt := 27) dX7_keptThere_20 (by decide) (fun h2 => ?_) (fun h2 => ?_)
      · have h2' : noneK (sK σ k) = false := by
          cases e : noneK (sK σ k) with
          | false => rfl
          | true => exact absurd (k2.mpr e) h2
        refine tr_iconst (v := nI 1) dX7_keptThere_27 (by decide) ?_
        first | with_reducible refine tr_iaddN dX7_keptThere_28 ?_ | refine tr_iadd dX7_keptThere_28 ?_
        -- at 29: .istore_n 1
        rw [show thM (fun r => noneK (sK σ r)) k + 1 = thM (fun r => noneK (sK σ r)) (k + 1) by rw [thM, h2']; rfl]
        refine tr_istore_n_1 dX7_keptThere_29 (by decide) rfl ?_
        first | with_reducible refine tr_iincN_2 dX7_keptThere_30 (by decide) rfl ?_ | refine tr_iinc_2 dX7_keptThere_30 (by decide) rfl ?_
        refine tr_goto (tgt := 4) dX7_keptThere_33 (by decide) ?_
        -- at 4: .iload_n 2
        exact l_kth h (m - 1) (k + 1) (by omega)
      · have h2' : noneK (sK σ k) = true := k2.mp h2
        refine tr_iconst (v := nI 0) dX7_keptThere_23 (by decide) ?_
        refine tr_goto (tgt := 28) dX7_keptThere_24 (by decide) ?_
        first | with_reducible refine tr_iaddN dX7_keptThere_28 ?_ | refine tr_iadd dX7_keptThere_28 ?_
        -- at 29: .istore_n 1
        rw [show thM (fun r => noneK (sK σ r)) k + 0 = thM (fun r => noneK (sK σ r)) (k + 1) by rw [thM, h2']; rfl]
        refine tr_istore_n_1 dX7_keptThere_29 (by decide) rfl ?_
        first | with_reducible refine tr_iincN_2 dX7_keptThere_30 (by decide) rfl ?_ | refine tr_iinc_2 dX7_keptThere_30 (by decide) rfl ?_
        refine tr_goto (tgt := 4) dX7_keptThere_33 (by decide) ?_
        -- at 4: .iload_n 2
        exact l_kth h (m - 1) (k + 1) (by omega)
  termination_by m => m
theorem c_kth (h : CI μ σ) : cp X (d + 1) kX7_keptThere [.ref 2] μ (qi (fun v μ' => μ' = μ ∧ v = nI (thM (fun r => noneK (sK σ r)) 3))) := by
  refine cp_of ok_X7_keptThere (L := [.ref 2, .float 0, .float 0]) rfl ?_
  refine tr_iconst (v := nI 0) dX7_keptThere_0 (by decide) ?_
  refine tr_istore_n_1 dX7_keptThere_1 (by decide) rfl ?_
  refine tr_iconst (v := nI 0) dX7_keptThere_2 (by decide) ?_
  refine tr_istore_n_2 dX7_keptThere_3 (by decide) rfl ?_
  -- at 4: .iload_n 2
  exact l_kth h 3 0 (by omega)
theorem c_countOf {q : Nat} (h : CI μ σ) (hW : WI σ) (hq : q < 13) : cp X (d + 3) kX7_countOf [.ref 2, .int (nI q)] μ (qi (fun v μ' => μ' = μ ∧ v = cntV σ q)) := by
  have hw := hW.now
  have hB := h.2.2.2.1
  obtain ⟨r4, r5, r6, r7, r8, rr⟩ := h.2.2.2.1
  have hd := h.2.2.2.2.1.2.1
  refine cp_of ok_X7_countOf (L := [.ref 2, .int (nI q)]) rfl ?_
  refine tr_iload_n dX7_countOf_0 rfl ?_
  -- at 1: .tableswitch 151 0 11 #[63, 71, 79, 87, 95, 103, 111, 119, 1
  have hk : q = 0 ∨ q = 1 ∨ q = 2 ∨ q = 3 ∨ q = 4 ∨ q = 5 ∨ q = 6 ∨ q = 7 ∨ q = 8 ∨ q = 9 ∨ q = 10 ∨ q = 11 ∨ q = 12 := by omega
  rcases hk with rfl | rfl | rfl | rfl | rfl | rfl | rfl | rfl | rfl | rfl | rfl | rfl | rfl
  · refine tr_tableIn (off := 63) (tgt := 64) dX7_countOf_1 (by decide) (by decide) (by decide) (by decide) ?_
    refine tr_aload_n dX7_countOf_64 rfl ?_
    refine tr_getR dX7_countOf_65 fg_RX7_28 (by first | assumption | decide) (by first | assumption | rfl) rfl (by omega) ?_
    refine tr_getI dX7_countOf_68 fg_RX7_149 (by first | assumption | decide) (by first | assumption | rfl) rfl (by first | assumption | rfl) ?_
    -- at 71: .ireturn
    refine tr_iret dX7_countOf_71 (by first | exact trivial | rfl) ⟨rfl, rfl⟩
  · refine tr_tableIn (off := 71) (tgt := 72) dX7_countOf_1 (by decide) (by decide) (by decide) (by decide) ?_
    refine tr_aload_n dX7_countOf_72 rfl ?_
    refine tr_getR dX7_countOf_73 fg_RX7_28 (by first | assumption | decide) (by first | assumption | rfl) rfl (by omega) ?_
    refine tr_getI dX7_countOf_76 fg_RX7_184 (by first | assumption | decide) (by first | assumption | rfl) rfl (by first | assumption | rfl) ?_
    -- at 79: .ireturn
    refine tr_iret dX7_countOf_79 (by first | exact trivial | rfl) ⟨rfl, rfl⟩
  · refine tr_tableIn (off := 79) (tgt := 80) dX7_countOf_1 (by decide) (by decide) (by decide) (by decide) ?_
    refine tr_aload_n dX7_countOf_80 rfl ?_
    refine tr_getR dX7_countOf_81 fg_RX7_40 (by first | assumption | decide) (by first | assumption | rfl) rfl (by omega) ?_
    refine tr_getI dX7_countOf_84 fg_RX7_80 (by first | assumption | decide) (by first | assumption | rfl) rfl (by first | assumption | rfl) ?_
    -- at 87: .ireturn
    refine tr_iret dX7_countOf_87 (by first | exact trivial | rfl) ⟨rfl, rfl⟩
  · refine tr_tableIn (off := 87) (tgt := 88) dX7_countOf_1 (by decide) (by decide) (by decide) (by decide) ?_
    refine tr_aload_n dX7_countOf_88 rfl ?_
    refine tr_getR dX7_countOf_89 fg_RX7_28 (by first | assumption | decide) (by first | assumption | rfl) rfl (by omega) ?_
    -- at 92: .invokevirtual 214
    refine tr_Vi (As := []) dX7_countOf_92 fm_RX7_214 rfl rfl (by first | assumption | decide) (by first | assumption | rfl) (Nat.le_of_ble_eq_true rfl) (c_number (d := d + 1) isB_10 hB hw) (fun v μ1 ⟨e1, e2⟩ => ?_)
    subst μ1; subst v
    refine tr_iret dX7_countOf_95 (by first | exact trivial | rfl) ⟨rfl, rfl⟩
  · refine tr_tableIn (off := 95) (tgt := 96) dX7_countOf_1 (by decide) (by decide) (by decide) (by decide) ?_
    refine tr_aload_n dX7_countOf_96 rfl ?_
    refine tr_getR dX7_countOf_97 fg_RX7_28 (by first | assumption | decide) (by first | assumption | rfl) rfl (by omega) ?_
    refine tr_getI dX7_countOf_100 fg_RX7_190 (by first | assumption | decide) (by first | assumption | rfl) rfl (by first | assumption | rfl) ?_
    -- at 103: .ireturn
    refine tr_iret dX7_countOf_103 (by first | exact trivial | rfl) ⟨rfl, rfl⟩
  · refine tr_tableIn (off := 103) (tgt := 104) dX7_countOf_1 (by decide) (by decide) (by decide) (by decide) ?_
    refine tr_aload_n dX7_countOf_104 rfl ?_
    refine tr_getR dX7_countOf_105 fg_RX7_28 (by first | assumption | decide) (by first | assumption | rfl) rfl (by omega) ?_
    refine tr_getI dX7_countOf_108 fg_RX7_200 (by first | assumption | decide) (by first | assumption | rfl) rfl (by first | assumption | rfl) ?_
    -- at 111: .ireturn
    refine tr_iret dX7_countOf_111 (by first | exact trivial | rfl) ⟨rfl, rfl⟩
  · refine tr_tableIn (off := 111) (tgt := 112) dX7_countOf_1 (by decide) (by decide) (by decide) (by decide) ?_
    refine tr_aload_n dX7_countOf_112 rfl ?_
    refine tr_getR dX7_countOf_113 fg_RX7_28 (by first | assumption | decide) (by first | assumption | rfl) rfl (by omega) ?_
    -- at 116: .invokevirtual 331
    refine tr_Vi (As := []) dX7_countOf_116 fm_RX7_331 rfl rfl (by first | assumption | decide) (by first | assumption | rfl) (Nat.le_of_ble_eq_true rfl) (c_rightOnes (d := d + 1) isB_10 hB hw) (fun v μ1 ⟨e1, e2⟩ => ?_)
    subst μ1; subst v
    refine tr_iret dX7_countOf_119 (by first | exact trivial | rfl) ⟨rfl, rfl⟩
  · refine tr_tableIn (off := 119) (tgt := 120) dX7_countOf_1 (by decide) (by decide) (by decide) (by decide) ?_
    refine tr_aload_n dX7_countOf_120 rfl ?_
    refine tr_getR dX7_countOf_121 fg_RX7_28 (by first | assumption | decide) (by first | assumption | rfl) rfl (by omega) ?_
    refine tr_getI dX7_countOf_124 fg_RX7_197 (by first | assumption | decide) (by first | assumption | rfl) rfl (by first | assumption | rfl) ?_
    -- at 127: .ireturn
    refine tr_iret dX7_countOf_127 (by first | exact trivial | rfl) ⟨rfl, rfl⟩
  · refine tr_tableIn (off := 127) (tgt := 128) dX7_countOf_1 (by decide) (by decide) (by decide) (by decide) ?_
    refine tr_aload_n dX7_countOf_128 rfl ?_
    -- at 129: .invokevirtual 334
    refine tr_Vi (As := []) dX7_countOf_129 fm_RX7_334 rfl rfl (by first | assumption | decide) (by first | assumption | rfl) (Nat.le_of_ble_eq_true rfl) (c_rth (d := d) h) (fun v μ1 ⟨e1, e2⟩ => ?_)
    subst μ1; subst v
    refine tr_iret dX7_countOf_132 (by first | exact trivial | rfl) ⟨rfl, rfl⟩
  · refine tr_tableIn (off := 132) (tgt := 133) dX7_countOf_1 (by decide) (by decide) (by decide) (by decide) ?_
    refine tr_aload_n dX7_countOf_133 rfl ?_
    -- at 134: .invokevirtual 337
    refine tr_Vi (As := []) dX7_countOf_134 fm_RX7_337 rfl rfl (by first | assumption | decide) (by first | assumption | rfl) (Nat.le_of_ble_eq_true rfl) (c_tth (d := d) h) (fun v μ1 ⟨e1, e2⟩ => ?_)
    subst μ1; subst v
    refine tr_iret dX7_countOf_137 (by first | exact trivial | rfl) ⟨rfl, rfl⟩
  · refine tr_tableIn (off := 137) (tgt := 138) dX7_countOf_1 (by decide) (by decide) (by decide) (by decide) ?_
    refine tr_aload_n dX7_countOf_138 rfl ?_
    -- at 139: .invokevirtual 340
    refine tr_Vi (As := []) dX7_countOf_139 fm_RX7_340 rfl rfl (by first | assumption | decide) (by first | assumption | rfl) (Nat.le_of_ble_eq_true rfl) (c_kth (d := d + 1) h) (fun v μ1 ⟨e1, e2⟩ => ?_)
    subst μ1; subst v
    refine tr_iret dX7_countOf_142 (by first | exact trivial | rfl) ⟨rfl, rfl⟩
  · refine tr_tableIn (off := 142) (tgt := 143) dX7_countOf_1 (by decide) (by decide) (by decide) (by decide) ?_
    refine tr_aload_n dX7_countOf_143 rfl ?_
    refine tr_getR dX7_countOf_144 fg_RX7_28 (by first | assumption | decide) (by first | assumption | rfl) rfl (by omega) ?_
    refine tr_iconst (v := nI 1) dX7_countOf_147 (by decide) ?_
    -- at 148: .invokevirtual 343
    refine tr_Vi (As := [_]) dX7_countOf_148 fm_RX7_343 rfl rfl (by first | assumption | decide) (by first | assumption | rfl) (Nat.le_of_ble_eq_true rfl) (c_drumsOf (d := d) (o := 1) (by omega) isB_10 hB hw) (fun v μ1 ⟨e1, e2⟩ => ?_)
    subst μ1; subst v
    refine tr_iret dX7_countOf_151 (by first | exact trivial | rfl) ⟨rfl, rfl⟩
  · refine tr_tableOut (tgt := 152) dX7_countOf_1 (by decide) (by decide) ?_
    refine tr_aload_n dX7_countOf_152 rfl ?_
    refine tr_getR dX7_countOf_153 fg_RX7_28 (by first | assumption | decide) (by first | assumption | rfl) rfl (by omega) ?_
    refine tr_iconst (v := nI 2) dX7_countOf_156 (by decide) ?_
    -- at 157: .invokevirtual 343
    refine tr_Vi (As := [_]) dX7_countOf_157 fm_RX7_343 rfl rfl (by first | assumption | decide) (by first | assumption | rfl) (Nat.le_of_ble_eq_true rfl) (c_drumsOf (d := d) (o := 2) (by omega) isB_10 hB hw) (fun v μ1 ⟨e1, e2⟩ => ?_)
    subst μ1; subst v
    refine tr_iret dX7_countOf_160 (by first | exact trivial | rfl) ⟨rfl, rfl⟩
theorem f_count (h : CI μ σ) (hW : WI σ) : cp X (d + 4) kX7_count [.ref 2, .int x] μ (PO μ (S_count σ x)) := by
  refine cp_of ok_X7_count (L := [.ref 2, .int x]) rfl ?_
  cases hx : ixV x 13 with
  | none =>
    refine tr_iload_n dX7_count_0 rfl ?_
    -- at 1: .ifCond .lt 9
    refine tr_if_lt (tgt := 10) dX7_count_1 (by decide) (fun h1 => ?_) (fun h1 => ?_)
    · refine tr_iconst (v := -1) dX7_count_10 (by decide) ?_
      refine tr_goto (tgt := 19) dX7_count_11 (by decide) ?_
      -- at 19: .ireturn
      refine tr_iret dX7_count_19 (by first | exact trivial | rfl) (po_same h (by simp only [S_count, hx]))
    · refine tr_iload_n dX7_count_4 rfl ?_
      refine tr_bipush (v := nI 13) dX7_count_5 (by decide) ?_
      -- at 7: .if_icmp .lt 7
      refine tr_icmp_lt (tgt := 14) dX7_count_7 (by decide) (fun h2 => ?_) (fun h2 => ?_)
      · exact absurd ⟨Int32.not_lt.mp h1, h2⟩ (ixV_none hx)
      · refine tr_iconst (v := -1) dX7_count_10 (by decide) ?_
        refine tr_goto (tgt := 19) dX7_count_11 (by decide) ?_
        -- at 19: .ireturn
        refine tr_iret dX7_count_19 (by first | exact trivial | rfl) (po_same h (by simp only [S_count, hx]))
  | some q =>
    obtain ⟨rfl, hq⟩ := ixV_some (by omega) hx
    have e : S_count σ (nI q) = (cntV σ q, σ) := by simp only [S_count, hx]
    rw [e]
    refine tr_iload_n dX7_count_0 rfl ?_
    -- at 1: .ifCond .lt 9
    refine tr_if_lt (tgt := 10) dX7_count_1 (by decide) (fun h1 => ?_) (fun h1 => ?_)
    · exact absurd h1 (nI_pos (by omega))
    · refine tr_iload_n dX7_count_4 rfl ?_
      refine tr_bipush (v := nI 13) dX7_count_5 (by decide) ?_
      -- at 7: .if_icmp .lt 7
      refine tr_ltN (tgt := 14) dX7_count_7 (by decide) (by omega) (by omega) (fun h2 => ?_) (fun h2 => ?_)
      · refine tr_aload_n dX7_count_14 rfl ?_
        refine tr_iload_n dX7_count_15 rfl ?_
        -- at 16: .invokevirtual 300
        refine tr_Vi (As := [_]) dX7_count_16 fm_RX7_300 rfl rfl (by first | assumption | decide) (by first | assumption | rfl) (Nat.le_of_ble_eq_true rfl) (c_countOf (d := d) h hW hq) (fun v μ1 ⟨e1, e2⟩ => ?_)
        subst μ1
        refine tr_iret dX7_count_19 (by first | exact trivial | rfl) (po_same h (by rw [e2]))
      · omega
theorem c_tdigO {a : Nat} {o : RV} (hR : isT a) (hr : XR 60 μ a o) {hh : Int64} : cp X (d + 1) kX6_digestFrom [.ref a, .long hh] μ (ql (fun v μ' => μ' = μ ∧ v = dgO o hh)) := by
  cases o with
  | none => exact c_tdig hR hr
  | some w => obtain ⟨n, f⟩ := w; exact c_tdig hR hr
theorem c_rdigO {a : Nat} {o : RV} (hR : isR a) (hr : XR 40 μ a o) {hh : Int64} : cp X (d + 1) kX4_digestFrom [.ref a, .long hh] μ (ql (fun v μ' => μ' = μ ∧ v = dgO o hh)) := by
  cases o with
  | none => exact c_rdig hR hr
  | some w => obtain ⟨n, f⟩ := w; exact c_rdig hR hr
theorem l_dg5 (h : CI μ σ) {g : Int64} {v4 : Value} : ∀ (m k : Nat), k + m = 4 → tw X (d + 1) kX7_digest (ql (fun v μ' => μ' = μ ∧ v = dgR (sT σ) 4 g)) 138 [.ref 2, .long (dgR (sT σ) k g), .float 0, .int (nI k), v4] [] μ
  | m, k, hkm => by
    refine tr_iload_n dX7_digest_138 rfl ?_
    refine tr_iconst (v := nI 4) dX7_digest_139 (by decide) ?_
    -- at 140: .if_icmp .ge 20
    refine tr_geN (tgt := 160) dX7_digest_140 (by decide) (by omega) (by omega) (fun h1 => ?_) (fun h1 => ?_)
    · obtain rfl : k = 4 := by omega
      refine tr_lload_n dX7_digest_160 rfl ?_
      -- at 161: .lreturn
      refine tr_lret dX7_digest_161 (by first | exact trivial | rfl) ⟨rfl, rfl⟩
    · obtain ⟨⟨i0, i1⟩, s0, s1⟩ := isT_t h1
      refine tr_aload_n dX7_digest_143 rfl ?_
      refine tr_getR dX7_digest_144 fg_RX7_17 (by first | assumption | decide) (by first | assumption | rfl) rfl (by omega) ?_
      refine tr_iload_n dX7_digest_147 rfl ?_
      -- at 148: .aaload
      refine tr_aald dX7_digest_148 (by first | assumption | decide) (by first | assumption | rfl) (by decide) rfl (text_at h1) (by decide) ?_
      refine tr_lload_n dX7_digest_149 rfl ?_
      -- at 150: .invokevirtual 314
      refine tr_Vl (As := [_]) dX7_digest_150 fm_RX7_314 rfl rfl (by first | assumption | decide) (by first | assumption | rfl) (Nat.le_of_ble_eq_true rfl) (c_tdigO (d := d) (isT_t h1) (h.2.1 k h1)) (fun v μ1 ⟨e1, e2⟩ => ?_)
      subst μ1
      have e3 : v = dgR (sT σ) (k + 1) g := e2
      subst v
      refine tr_lstore_n_1 dX7_digest_153 (by decide) rfl ?_
      first | with_reducible refine tr_iincN_3 dX7_digest_154 (by decide) rfl ?_ | refine tr_iinc_3 dX7_digest_154 (by decide) rfl ?_
      refine tr_goto (tgt := 138) dX7_digest_157 (by decide) ?_
      -- at 138: .iload_n 3
      exact l_dg5 h (m - 1) (k + 1) (by omega)
  termination_by m => m
theorem l_dg4 (h : CI μ σ) {g : Int64} {v4 : Value} : ∀ (m k : Nat), k + m = 6 → tw X (d + 1) kX7_digest (ql (fun v μ' => μ' = μ ∧ v = dgR (sT σ) 4 (dgR (sR σ) 6 g))) 113 [.ref 2, .long (dgR (sR σ) k g), .float 0, .int (nI k), v4] [] μ
  | m, k, hkm => by
    refine tr_iload_n dX7_digest_113 rfl ?_
    refine tr_bipush (v := nI 6) dX7_digest_114 (by decide) ?_
    -- at 116: .if_icmp .ge 20
    refine tr_geN (tgt := 136) dX7_digest_116 (by decide) (by omega) (by omega) (fun h1 => ?_) (fun h1 => ?_)
    · obtain rfl : k = 6 := by omega
      refine tr_iconst (v := nI 0) dX7_digest_136 (by decide) ?_
      refine tr_istore_n_3 dX7_digest_137 (by decide) rfl ?_
      -- at 138: .iload_n 3
      exact l_dg5 h 4 0 (by omega)
    · obtain ⟨⟨i0, i1⟩, s0, s1⟩ := isR_r h1
      refine tr_aload_n dX7_digest_119 rfl ?_
      refine tr_getR dX7_digest_120 fg_RX7_11 (by first | assumption | decide) (by first | assumption | rfl) rfl (by omega) ?_
      refine tr_iload_n dX7_digest_123 rfl ?_
      -- at 124: .aaload
      refine tr_aald dX7_digest_124 (by first | assumption | decide) (by first | assumption | rfl) (by decide) rfl (row_at h1) (by decide) ?_
      refine tr_lload_n dX7_digest_125 rfl ?_
      -- at 126: .invokevirtual 310
      refine tr_Vl (As := [_]) dX7_digest_126 fm_RX7_310 rfl rfl (by first | assumption | decide) (by first | assumption | rfl) (Nat.le_of_ble_eq_true rfl) (c_rdigO (d := d) (isR_r h1) (h.1 k h1)) (fun v μ1 ⟨e1, e2⟩ => ?_)
      subst μ1
      have e3 : v = dgR (sR σ) (k + 1) g := e2
      subst v
      refine tr_lstore_n_1 dX7_digest_129 (by decide) rfl ?_
      first | with_reducible refine tr_iincN_3 dX7_digest_130 (by decide) rfl ?_ | refine tr_iinc_3 dX7_digest_130 (by decide) rfl ?_
      refine tr_goto (tgt := 113) dX7_digest_133 (by decide) ?_
      -- at 113: .iload_n 3
      exact l_dg4 h (m - 1) (k + 1) (by omega)
  termination_by m => m
theorem l_dg3 (h : CI μ σ) {g : Int64} {v4 : Value} : ∀ (m k : Nat), k + m = 3 → tw X (d + 1) kX7_digest (ql (fun v μ' => μ' = μ ∧ v = dgR (sT σ) 4 (dgR (sR σ) 6 (dgM (fun k => szK (sK σ k)) 3 g)))) 83 [.ref 2, .long (dgM (fun k => szK (sK σ k)) k g), .float 0, .int (nI k), v4] [] μ
  | m, k, hkm => by
    refine tr_iload_n dX7_digest_83 rfl ?_
    refine tr_iconst (v := nI 3) dX7_digest_84 (by decide) ?_
    -- at 85: .if_icmp .ge 26
    refine tr_geN (tgt := 111) dX7_digest_85 (by decide) (by omega) (by omega) (fun h1 => ?_) (fun h1 => ?_)
    · obtain rfl : k = 3 := by omega
      refine tr_iconst (v := nI 0) dX7_digest_111 (by decide) ?_
      refine tr_istore_n_3 dX7_digest_112 (by decide) rfl ?_
      -- at 113: .iload_n 3
      exact l_dg4 h 6 0 (by omega)
    · obtain ⟨⟨i0, i1⟩, s0, s1⟩ := isD_k h1
      have k1 := (h.2.2.2.2.2.1 k h1).sz
      refine tr_ldc2 (v := lN 31) dX7_digest_88 fk_RX7_308 ?_
      refine tr_lload_n dX7_digest_91 rfl ?_
      refine tr_lmul dX7_digest_92 ?_
      refine tr_aload_n dX7_digest_93 rfl ?_
      refine tr_getR dX7_digest_94 fg_RX7_44 (by first | assumption | decide) (by first | assumption | rfl) rfl (by omega) ?_
      refine tr_iload_n dX7_digest_97 rfl ?_
      -- at 98: .aaload
      refine tr_aald dX7_digest_98 (by first | assumption | decide) (by first | assumption | rfl) (by decide) rfl (kept_at h1) (by decide) ?_
      refine tr_getI dX7_digest_99 fg_RX7_80 (by first | assumption | decide) (by first | assumption | rfl) rfl (by first | assumption | rfl) ?_
      refine tr_i2l dX7_digest_102 ?_
      refine tr_ladd dX7_digest_103 ?_
      refine tr_lstore_n_1 dX7_digest_104 (by decide) rfl ?_
      first | with_reducible refine tr_iincN_3 dX7_digest_105 (by decide) rfl ?_ | refine tr_iinc_3 dX7_digest_105 (by decide) rfl ?_
      refine tr_goto (tgt := 83) dX7_digest_108 (by decide) ?_
      -- at 83: .iload_n 3
      exact l_dg3 h (m - 1) (k + 1) (by omega)
  termination_by m => m
theorem l_dg2b {Q : Option Value → am_M → Prop} (h : CI μ σ) (hW : WI σ) {g : Int64} (hi : i < nowM σ 18) (hQ : tw X (d + 3) kX7_digest Q 75 [.ref 2, .long (dgM (fun q => nI (dfM (nowM σ) i q)) 7 g), .float 0, .int (nI i), .int (nI 7)] [] μ) : ∀ (m k : Nat), k + m = 7 → tw X (d + 3) kX7_digest Q 47 [.ref 2, .long (dgM (fun q => nI (dfM (nowM σ) i q)) k g), .float 0, .int (nI i), .int (nI k)] [] μ
  | m, k, hkm => by
    have hw1 := hW.now.1
    refine tr_iload dX7_digest_47 rfl ?_
    refine tr_bipush (v := nI 7) dX7_digest_49 (by decide) ?_
    -- at 51: .if_icmp .ge 24
    refine tr_geN (tgt := 75) dX7_digest_51 (by decide) (by omega) (by omega) (fun h1 => ?_) (fun h1 => ?_)
    · obtain rfl : k = 7 := by omega
      exact hQ
    · refine tr_ldc2 (v := lN 31) dX7_digest_54 fk_RX7_308 ?_
      refine tr_lload_n dX7_digest_57 rfl ?_
      refine tr_lmul dX7_digest_58 ?_
      refine tr_aload_n dX7_digest_59 rfl ?_
      refine tr_iload_n dX7_digest_60 rfl ?_
      refine tr_iload dX7_digest_61 rfl ?_
      -- at 63: .invokevirtual 155
      refine tr_Vi (As := [_, _]) dX7_digest_63 fm_RX7_155 rfl rfl (by first | assumption | decide) (by first | assumption | rfl) (Nat.le_of_ble_eq_true rfl) (c_drumFact (d := d) h hW hi h1) (fun v μ1 ⟨e1, e2⟩ => ?_)
      subst μ1; subst v
      refine tr_i2l dX7_digest_66 ?_
      refine tr_ladd dX7_digest_67 ?_
      refine tr_lstore_n_1 dX7_digest_68 (by decide) rfl ?_
      first | with_reducible refine tr_iincN_4 dX7_digest_69 (by decide) rfl ?_ | refine tr_iinc_4 dX7_digest_69 (by decide) rfl ?_
      refine tr_goto (tgt := 47) dX7_digest_72 (by decide) ?_
      -- at 47: .iload 4
      exact l_dg2b h hW hi hQ (m - 1) (k + 1) (by omega)
  termination_by m => m
theorem l_dg2 (h : CI μ σ) (hW : WI σ) {g : Int64} : ∀ (m i : Nat) (v4 : Value), i + m = nowM σ 18 → tw X (d + 3) kX7_digest (ql (fun v μ' => μ' = μ ∧ v = dgR (sT σ) 4 (dgR (sR σ) 6 (dgM (fun k => szK (sK σ k)) 3 (dgD (nowM σ) (nowM σ 18) g))))) 33 [.ref 2, .long (dgD (nowM σ) i g), .float 0, .int (nI i), v4] [] μ
  | m, i, v4, him => by
    have hw1 := hW.now.1
    have r4 := h.2.2.2.1.1
    refine tr_iload_n dX7_digest_33 rfl ?_
    refine tr_aload_n dX7_digest_34 rfl ?_
    refine tr_getR dX7_digest_35 fg_RX7_28 (by first | assumption | decide) (by first | assumption | rfl) rfl (by omega) ?_
    refine tr_getI dX7_digest_38 fg_RX7_149 (by first | assumption | decide) (by first | assumption | rfl) rfl (by first | assumption | rfl) ?_
    -- at 41: .if_icmp .ge 40
    refine tr_geN (tgt := 81) dX7_digest_41 (by decide) (by omega) (by omega) (fun h1 => ?_) (fun h1 => ?_)
    · have ei : i = nowM σ 18 := by omega
      rw [ei]
      refine tr_iconst (v := nI 0) dX7_digest_81 (by decide) ?_
      refine tr_istore_n_3 dX7_digest_82 (by decide) rfl ?_
      -- at 83: .iload_n 3
      exact l_dg3 (d := d + 2) h 3 0 (by omega)
    · refine tr_iconst (v := nI 0) dX7_digest_44 (by decide) ?_
      refine tr_istore_4 dX7_digest_45 (by decide) rfl ?_
      -- at 47: .iload 4
      refine l_dg2b h hW h1 ?_ 7 0 (by omega)
      first | with_reducible refine tr_iincN_3 dX7_digest_75 (by decide) rfl ?_ | refine tr_iinc_3 dX7_digest_75 (by decide) rfl ?_
      refine tr_goto (tgt := 33) dX7_digest_78 (by decide) ?_
      -- at 33: .iload_n 3
      exact l_dg2 h hW (m - 1) (i + 1) _ (by omega)
  termination_by m => m
theorem l_dg1 (h : CI μ σ) (hW : WI σ) {v4 : Value} : ∀ (m k : Nat), k + m = 13 → tw X (d + 3) kX7_digest (ql (fun v μ' => μ' = μ ∧ v = digM σ)) 6 [.ref 2, .long (dgM (cntV σ) k (lN 17)), .float 0, .int (nI k), v4] [] μ
  | m, k, hkm => by
    refine tr_iload_n dX7_digest_6 rfl ?_
    refine tr_bipush (v := nI 13) dX7_digest_7 (by decide) ?_
    -- at 9: .if_icmp .ge 22
    refine tr_geN (tgt := 31) dX7_digest_9 (by decide) (by omega) (by omega) (fun h1 => ?_) (fun h1 => ?_)
    · obtain rfl : k = 13 := by omega
      refine tr_iconst (v := nI 0) dX7_digest_31 (by decide) ?_
      refine tr_istore_n_3 dX7_digest_32 (by decide) rfl ?_
      -- at 33: .iload_n 3
      exact l_dg2 h hW (nowM σ 18) 0 _ (by omega)
    · refine tr_ldc2 (v := lN 31) dX7_digest_12 fk_RX7_308 ?_
      refine tr_lload_n dX7_digest_15 rfl ?_
      refine tr_lmul dX7_digest_16 ?_
      refine tr_aload_n dX7_digest_17 rfl ?_
      refine tr_iload_n dX7_digest_18 rfl ?_
      -- at 19: .invokevirtual 300
      refine tr_Vi (As := [_]) dX7_digest_19 fm_RX7_300 rfl rfl (by first | assumption | decide) (by first | assumption | rfl) (Nat.le_of_ble_eq_true rfl) (c_countOf (d := d) h hW h1) (fun v μ1 ⟨e1, e2⟩ => ?_)
      subst μ1; subst v
      refine tr_i2l dX7_digest_22 ?_
      refine tr_ladd dX7_digest_23 ?_
      refine tr_lstore_n_1 dX7_digest_24 (by decide) rfl ?_
      first | with_reducible refine tr_iincN_3 dX7_digest_25 (by decide) rfl ?_ | refine tr_iinc_3 dX7_digest_25 (by decide) rfl ?_
      refine tr_goto (tgt := 6) dX7_digest_28 (by decide) ?_
      -- at 6: .iload_n 3
      exact l_dg1 h hW (m - 1) (k + 1) (by omega)
  termination_by m => m
theorem f_digest (h : CI μ σ) (hW : WI σ) : cp X (d + 4) kX7_digest [.ref 2] μ (ql (fun v μ' => μ' = μ ∧ v = digM σ)) := by
  refine cp_of ok_X7_digest (L := [.ref 2, .float 0, .float 0, .float 0, .float 0]) rfl ?_
  refine tr_ldc2 (v := lN 17) dX7_digest_0 fk_RX7_306 ?_
  refine tr_lstore_n_1 dX7_digest_3 (by decide) rfl ?_
  refine tr_iconst (v := nI 0) dX7_digest_4 (by decide) ?_
  refine tr_istore_n_3 dX7_digest_5 (by decide) rfl ?_
  -- at 6: .iload_n 3
  exact l_dg1 h hW 13 0 (by omega)
end F7
