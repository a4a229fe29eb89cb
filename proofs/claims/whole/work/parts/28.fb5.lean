-- ===== FlapBoard: messages, soonest, passes =====
def mref (σ : SG) (j : Nat) : Option (Int32 × SG) := if nowM σ 18 = 0 then some (-4, σ) else match sR σ j with
  | none => some (-3, gF σ 1)
  | some (n, f) => if n = 0 ∨ 5 < n then some (-3, gF σ 5) else if withM n f (nI (10 ^ nowM σ 18 - 1)) = true then none else some (-3, gF σ 3)
def sref (σ : SG) (i r : Int32) : Option (Int32 × SG) := match ixV i (nowM σ 18), ixV r 6 with
  | some _, some j => match sR σ j with
    | none => some (-3, gF σ 1)
    | some (n, f) => if n = 0 ∨ 20 < n then some (-3, gF σ 5) else if withM n f (nI 9) = true then none else some (-3, gF σ 3)
  | _, _ => some (-1, σ)
def sooM (c : NF) (f : Nat → Int32) : Nat → Option Nat × Nat
  | 0 => (none, 61)
  | i + 1 => if tM 61 (aimM (c 18) (f i).toNatClampNeg c) < (sooM c f i).2 then (some i, tM 61 (aimM (c 18) (f i).toNatClampNeg c)) else sooM c f i
def S_soonest (σ : SG) (r : Int32) : Int32 × SG := match ixV r 6 with
  | none => (-1, σ)
  | some j => match mref σ j with
    | some p => p
    | none => match sR σ j with
      | none => (-1, σ)
      | some (n, f) => match (sooM (nowM σ) f n).1 with
        | none => (-9, σ)
        | some i => (nI i, gA σ (nI (sooM (nowM σ) f n).2))
theorem tM_min : ∀ (k m : Nat) (c : NF), k ≤ m → tM k c = min (tM m c) k
  | 0, m, c, _ => by rw [tM]; omega
  | k + 1, m, c, h => by
    obtain ⟨m', rfl⟩ : ∃ m', m = m' + 1 := ⟨m - 1, by omega⟩
    rw [tM, tM]
    split
    · omega
    · rw [tM_min k m' (goC c) (by omega)]; omega
theorem sooM_le (c : NF) (f : Nat → Int32) : ∀ n, (sooM c f n).2 ≤ 61 ∧ ∀ i, (sooM c f n).1 = some i → i < n
  | 0 => ⟨Nat.le_refl _, fun i h => by cases h⟩
  | n + 1 => by
    have ih := sooM_le c f n
    rw [sooM]
    split
    · exact ⟨by have := ih.1; dsimp only; omega, fun i h => by cases h; omega⟩
    · exact ⟨ih.1, fun i h => by have := ih.2 i h; omega⟩
def pasM : Nat → NF → List Nat → Nat → List Nat × Nat
  | 0, _, s, g => (s, g)
  | m + 1, c, s, g => if toldM c = true then (s, g) else pasM m (goC c) (if numM (goC c) (c 18) ∈ s then s else s ++ [numM (goC c) (c 18)]) (max g (numM (goC c) (c 18)))
def S_passes (σ : SG) : Int32 × SG := if nowM σ 18 = 0 then (-4, σ) else (nI (pasM 60 (nowM σ) [numM (nowM σ) (nowM σ 18)] (numM (nowM σ) (nowM σ 18))).1.length, gA σ (nI (pasM 60 (nowM σ) [numM (nowM σ) (nowM σ 18)] (numM (nowM σ) (nowM σ 18))).2))
theorem numM_lt {c : NF} (h : wfc c) : ∀ n, n ≤ 7 → numM c n < 10 ^ n
  | 0, _ => by simp [numM]
  | n + 1, hn => by
    have := numM_lt h n (by omega)
    have h4 := (h.2.2.2 n (by omega)).1
    rw [numM, Nat.pow_succ]
    omega
theorem numM_31 {c : NF} (h : wfc c) {n : Nat} (hn : n ≤ 7) : numM c n < 10000000 := Nat.lt_of_lt_of_le (numM_lt h n hn) (Nat.pow_le_pow_right (by omega) hn)
theorem ten_le {n : Nat} (hn : n ≤ 7) : 10 ^ n ≤ 10000000 := Nat.pow_le_pow_right (by omega) hn
section F5
variable {X : Nat × (Nat → Int32)} {d : Nat} {μ : am_M} {σ : SG} {r x y z w : Int32} {j n : Nat} {f : Nat → Int32}
theorem c_mref (h : CI μ σ) (hW : WI σ) (hj : j < 6) : cp X (d + 3) kX7_messagesRefused [.ref 2, .int (nI j)] μ (qi (fun v μ' => match mref σ j with | none => v = nI 0 ∧ μ' = μ | some p => v = p.1 ∧ CI μ' p.2 ∧ fr μ μ' ∧ ¬ v = 0)) := by
  have hw1 := hW.now.1
  have r4 := h.2.2.2.1.1
  obtain ⟨⟨i0, i1⟩, s0, s1⟩ := isR_r hj
  have hX := h.1 j hj
  refine cp_of ok_X7_messagesRefused (L := [.ref 2, .int (nI j)]) rfl ?_
  refine tr_aload_n dX7_messagesRefused_0 rfl ?_
  refine tr_getR dX7_messagesRefused_1 fg_RX7_28 (by first | assumption | decide) (by first | assumption | rfl) rfl (by omega) ?_
  refine tr_getI dX7_messagesRefused_4 fg_RX7_149 (by first | assumption | decide) (by first | assumption | rfl) rfl (by first | assumption | rfl) ?_
  -- at 7: .ifCond .ne 6
  refine tr_ifnN (tgt := 13) dX7_messagesRefused_7 (by decide) (by omega) (fun h1 => ?_) (fun h1 => ?_)
  · refine tr_aload_n dX7_messagesRefused_13 rfl ?_
    refine tr_getR dX7_messagesRefused_14 fg_RX7_11 (by first | assumption | decide) (by first | assumption | rfl) rfl (by omega) ?_
    refine tr_iload_n dX7_messagesRefused_17 rfl ?_
    -- at 18: .aaload
    refine tr_aald dX7_messagesRefused_18 (by first | assumption | decide) (by first | assumption | rfl) (by decide) rfl (row_at hj) (by decide) ?_
    refine tr_Vi (As := []) dX7_messagesRefused_19 fm_RX7_110 rfl rfl (by first | assumption | decide) (by first | assumption | rfl) (Nat.le_of_ble_eq_true rfl) (c_rmiss (d := d + 1) (isR_r hj) hX) (fun v μ1 ⟨e1, e2⟩ => ?_)
    subst μ1; subst v
    cases ho : sR σ j with
    | none =>
      have e : mref σ j = some (-3, gF σ 1) := by simp only [mref, ho]; rw [if_neg h1]
      rw [e]
      refine tr_ifb0 (tgt := 31) dX7_messagesRefused_22 (by decide) (fun h2 => ?_) (fun h2 => ?_)
      · cases h2
      · refine tr_aload_n dX7_messagesRefused_25 rfl ?_
        refine tr_iconst (v := nI 1) dX7_messagesRefused_26 (by decide) ?_
        -- at 27: .invokevirtual 88
        refine tr_Vi (As := [_]) dX7_messagesRefused_27 fm_RX7_88 rfl rfl (by first | assumption | decide) (by first | assumption | rfl) (Nat.le_of_ble_eq_true rfl) (c_found (d := d + 1) (k := 1) (by omega) h) (fun v μ1 ⟨e1, e2, e3⟩ => ?_)
        refine tr_iret dX7_messagesRefused_30 (by first | exact trivial | rfl) ⟨e1, e2, e3, by rw [e1]; exact m3_ne⟩
    | some w =>
      obtain ⟨n, f⟩ := w
      rw [ho] at hX
      have k1 := hX.1
      have k2 := hX.2.1
      refine tr_ifb0 (tgt := 31) dX7_messagesRefused_22 (by decide) (fun h2 => ?_) (fun h2 => ?_)
      · refine tr_aload_n dX7_messagesRefused_31 rfl ?_
        refine tr_getR dX7_messagesRefused_32 fg_RX7_11 (by first | assumption | decide) (by first | assumption | rfl) rfl (by omega) ?_
        refine tr_iload_n dX7_messagesRefused_35 rfl ?_
        -- at 36: .aaload
        refine tr_aald dX7_messagesRefused_36 (by first | assumption | decide) (by first | assumption | rfl) (by decide) rfl (row_at hj) (by decide) ?_
        refine tr_getI dX7_messagesRefused_37 fg_RX7_109 (by first | assumption | decide) (by first | assumption | rfl) rfl (by first | assumption | rfl) ?_
        -- at 40: .ifCond .eq 16
        have hsz : (n = 0 ∨ 5 < n) → tw X (d + 2) kX7_messagesRefused (qi (fun v μ' => match mref σ j with | none => v = nI 0 ∧ μ' = μ | some p => v = p.1 ∧ CI μ' p.2 ∧ fr μ μ' ∧ ¬ v = 0)) 56 [.ref 2, .int (nI j)] [] μ := by
          intro hn
          have e : mref σ j = some (-3, gF σ 5) := by simp only [mref, ho]; rw [if_neg h1, if_pos hn]
          rw [e]
          refine tr_aload_n dX7_messagesRefused_56 rfl ?_
          refine tr_iconst (v := nI 5) dX7_messagesRefused_57 (by decide) ?_
          -- at 58: .invokevirtual 88
          refine tr_Vi (As := [_]) dX7_messagesRefused_58 fm_RX7_88 rfl rfl (by first | assumption | decide) (by first | assumption | rfl) (Nat.le_of_ble_eq_true rfl) (c_found (d := d + 1) (k := 5) (by omega) h) (fun v μ1 ⟨e1, e2, e3⟩ => ?_)
          refine tr_iret dX7_messagesRefused_61 (by first | exact trivial | rfl) ⟨e1, e2, e3, by rw [e1]; exact m3_ne⟩
        refine tr_if0N (tgt := 56) dX7_messagesRefused_40 (by decide) (by omega) (fun h3 => ?_) (fun h3 => ?_)
        · exact hsz (Or.inl h3)
        · refine tr_aload_n dX7_messagesRefused_43 rfl ?_
          refine tr_getR dX7_messagesRefused_44 fg_RX7_11 (by first | assumption | decide) (by first | assumption | rfl) rfl (by omega) ?_
          refine tr_iload_n dX7_messagesRefused_47 rfl ?_
          -- at 48: .aaload
          refine tr_aald dX7_messagesRefused_48 (by first | assumption | decide) (by first | assumption | rfl) (by decide) rfl (row_at hj) (by decide) ?_
          refine tr_getI dX7_messagesRefused_49 fg_RX7_109 (by first | assumption | decide) (by first | assumption | rfl) rfl (by first | assumption | rfl) ?_
          refine tr_iconst (v := nI 5) dX7_messagesRefused_52 (by decide) ?_
          -- at 53: .if_icmp .le 9
          refine tr_leN (tgt := 62) dX7_messagesRefused_53 (by decide) (by omega) (by omega) (fun h4 => ?_) (fun h4 => ?_)
          · have h10 := ten_le hw1
            have h10' : 0 < 10 ^ nowM σ 18 := Nat.pow_pos (by omega)
            refine tr_aload_n dX7_messagesRefused_62 rfl ?_
            refine tr_getR dX7_messagesRefused_63 fg_RX7_11 (by first | assumption | decide) (by first | assumption | rfl) rfl (by omega) ?_
            refine tr_iload_n dX7_messagesRefused_66 rfl ?_
            -- at 67: .aaload
            refine tr_aald dX7_messagesRefused_67 (by first | assumption | decide) (by first | assumption | rfl) (by decide) rfl (row_at hj) (by decide) ?_
            refine tr_bipush (v := nI 10) dX7_messagesRefused_68 (by decide) ?_
            refine tr_aload_n dX7_messagesRefused_70 rfl ?_
            refine tr_getR dX7_messagesRefused_71 fg_RX7_28 (by first | assumption | decide) (by first | assumption | rfl) rfl (by omega) ?_
            refine tr_getI dX7_messagesRefused_74 fg_RX7_149 (by first | assumption | decide) (by first | assumption | rfl) rfl (by first | assumption | rfl) ?_
            -- at 77: .invokestatic 316
            refine tr_Si (As := [_, _]) dX7_messagesRefused_77 fm_RX7_316 rfl rfl (Nat.le_of_ble_eq_true rfl) (c_raised (d := d + 1) (by omega)) (fun v μ1 ⟨e1, e2⟩ => ?_)
            subst μ1; subst v
            refine tr_iconst (v := nI 1) dX7_messagesRefused_80 (by decide) ?_
            first | with_reducible refine tr_isubN dX7_messagesRefused_81 (by omega) ?_ | refine tr_isub dX7_messagesRefused_81 ?_
            -- at 82: .invokevirtual 319
            refine tr_Vi (As := [_]) dX7_messagesRefused_82 fm_RX7_319 rfl rfl (by first | assumption | decide) (by first | assumption | rfl) (Nat.le_of_ble_eq_true rfl) (c_within (d := d + 1) (isR_r hj) hX) (fun v μ1 ⟨e1, e2⟩ => ?_)
            subst μ1; subst v
            refine tr_ifb0 (tgt := 92) dX7_messagesRefused_85 (by decide) (fun h5 => ?_) (fun h5 => ?_)
            · have e : mref σ j = some (-3, gF σ 3) := by simp only [mref, ho]; rw [if_neg h1, if_neg (by omega), if_neg (by rw [h5]; decide)]
              rw [e]
              refine tr_aload_n dX7_messagesRefused_92 rfl ?_
              refine tr_iconst (v := nI 3) dX7_messagesRefused_93 (by decide) ?_
              -- at 94: .invokevirtual 88
              refine tr_Vi (As := [_]) dX7_messagesRefused_94 fm_RX7_88 rfl rfl (by first | assumption | decide) (by first | assumption | rfl) (Nat.le_of_ble_eq_true rfl) (c_found (d := d + 1) (k := 3) (by omega) h) (fun v μ1 ⟨e1, e2, e3⟩ => ?_)
              refine tr_iret dX7_messagesRefused_97 (by first | exact trivial | rfl) ⟨e1, e2, e3, by rw [e1]; exact m3_ne⟩
            · have e : mref σ j = none := by simp only [mref, ho]; rw [if_neg h1, if_neg (by omega), if_pos h5]
              rw [e]
              refine tr_iconst (v := nI 0) dX7_messagesRefused_88 (by decide) ?_
              refine tr_goto (tgt := 97) dX7_messagesRefused_89 (by decide) ?_
              -- at 97: .ireturn
              refine tr_iret dX7_messagesRefused_97 (by first | exact trivial | rfl) ⟨rfl, rfl⟩
          · exact hsz (Or.inr (by omega))
      · cases h2
  · have e : mref σ j = some (-4, σ) := by rw [mref, if_pos h1]
    rw [e]
    refine tr_bipush (v := -4) dX7_messagesRefused_10 (by decide) ?_
    -- at 12: .ireturn
    refine tr_iret dX7_messagesRefused_12 (by first | exact trivial | rfl) ⟨rfl, h, fr.rf μ, by decide⟩
theorem c_sref (h : CI μ σ) (hW : WI σ) : cp X (d + 3) kX7_showedRefused [.ref 2, .int x, .int r] μ (qi (fun v μ' => match sref σ x r with | none => v = nI 0 ∧ μ' = μ | some p => v = p.1 ∧ CI μ' p.2 ∧ fr μ μ' ∧ ¬ v = 0)) := by
  have hw1 := hW.now.1
  refine cp_of ok_X7_showedRefused (L := [.ref 2, .int x, .int r]) rfl ?_
  refine tr_aload_n dX7_showedRefused_0 rfl ?_
  refine tr_iload_n dX7_showedRefused_1 rfl ?_
  -- at 2: .invokevirtual 152
  refine tr_Vi (As := [_]) dX7_showedRefused_2 fm_RX7_152 rfl rfl (by first | assumption | decide) (by first | assumption | rfl) (Nat.le_of_ble_eq_true rfl) (c_isDrum (d := d + 1) h) (fun v μ1 ⟨e1, e2⟩ => ?_)
  subst μ1; subst v
  cases hx : ixV x (nowM σ 18) with
  | none =>
    have e : sref σ x r = some (-1, σ) := by simp only [sref, hx]
    rw [e]
    refine tr_ifb0 (tgt := 15) dX7_showedRefused_5 (by decide) (fun h1 => ?_) (fun h1 => ?_)
    · refine tr_iconst (v := -1) dX7_showedRefused_15 (by decide) ?_
      -- at 16: .ireturn
      refine tr_iret dX7_showedRefused_16 (by first | exact trivial | rfl) ⟨rfl, h, fr.rf μ, by decide⟩
    · cases h1
  | some i =>
    refine tr_ifb0 (tgt := 15) dX7_showedRefused_5 (by decide) (fun h1 => ?_) (fun h1 => ?_)
    · cases h1
    · refine tr_iload_n dX7_showedRefused_8 rfl ?_
      -- at 9: .invokestatic 84
      refine tr_Si (As := [_]) dX7_showedRefused_9 fm_RX7_84 rfl rfl (Nat.le_of_ble_eq_true rfl) (c_isRow (d := d + 1)) (fun v μ1 ⟨e1, e2⟩ => ?_)
      subst μ1; subst v
      cases hr : ixV r 6 with
      | none =>
        have e : sref σ x r = some (-1, σ) := by simp only [sref, hx, hr]
        rw [e]
        refine tr_ifb1 (tgt := 17) dX7_showedRefused_12 (by decide) (fun h2 => ?_) (fun h2 => ?_)
        · cases h2
        · refine tr_iconst (v := -1) dX7_showedRefused_15 (by decide) ?_
          -- at 16: .ireturn
          refine tr_iret dX7_showedRefused_16 (by first | exact trivial | rfl) ⟨rfl, h, fr.rf μ, by decide⟩
      | some j =>
        obtain ⟨rfl, hj⟩ := ixV_some (by omega) hr
        obtain ⟨⟨i0, i1⟩, s0, s1⟩ := isR_r hj
        have hX := h.1 j hj
        refine tr_ifb1 (tgt := 17) dX7_showedRefused_12 (by decide) (fun h2 => ?_) (fun h2 => ?_)
        · refine tr_aload_n dX7_showedRefused_17 rfl ?_
          refine tr_getR dX7_showedRefused_18 fg_RX7_11 (by first | assumption | decide) (by first | assumption | rfl) rfl (by omega) ?_
          refine tr_iload_n dX7_showedRefused_21 rfl ?_
          -- at 22: .aaload
          refine tr_aald dX7_showedRefused_22 (by first | assumption | decide) (by first | assumption | rfl) (by decide) rfl (row_at hj) (by decide) ?_
          refine tr_Vi (As := []) dX7_showedRefused_23 fm_RX7_110 rfl rfl (by first | assumption | decide) (by first | assumption | rfl) (Nat.le_of_ble_eq_true rfl) (c_rmiss (d := d + 1) (isR_r hj) hX) (fun v μ1 ⟨e1, e2⟩ => ?_)
          subst μ1; subst v
          cases ho : sR σ j with
          | none =>
            have e : sref σ x (nI j) = some (-3, gF σ 1) := by simp only [sref, hx, hr, ho]
            rw [e]
            refine tr_ifb0 (tgt := 35) dX7_showedRefused_26 (by decide) (fun h3 => ?_) (fun h3 => ?_)
            · cases h3
            · refine tr_aload_n dX7_showedRefused_29 rfl ?_
              refine tr_iconst (v := nI 1) dX7_showedRefused_30 (by decide) ?_
              -- at 31: .invokevirtual 88
              refine tr_Vi (As := [_]) dX7_showedRefused_31 fm_RX7_88 rfl rfl (by first | assumption | decide) (by first | assumption | rfl) (Nat.le_of_ble_eq_true rfl) (c_found (d := d + 1) (k := 1) (by omega) h) (fun v μ1 ⟨e1, e2, e3⟩ => ?_)
              refine tr_iret dX7_showedRefused_34 (by first | exact trivial | rfl) ⟨e1, e2, e3, by rw [e1]; exact m3_ne⟩
          | some w =>
            obtain ⟨n, f⟩ := w
            rw [ho] at hX
            have k1 := hX.1
            have k2 := hX.2.1
            refine tr_ifb0 (tgt := 35) dX7_showedRefused_26 (by decide) (fun h3 => ?_) (fun h3 => ?_)
            · refine tr_aload_n dX7_showedRefused_35 rfl ?_
              refine tr_getR dX7_showedRefused_36 fg_RX7_11 (by first | assumption | decide) (by first | assumption | rfl) rfl (by omega) ?_
              refine tr_iload_n dX7_showedRefused_39 rfl ?_
              -- at 40: .aaload
              refine tr_aald dX7_showedRefused_40 (by first | assumption | decide) (by first | assumption | rfl) (by decide) rfl (row_at hj) (by decide) ?_
              refine tr_getI dX7_showedRefused_41 fg_RX7_109 (by first | assumption | decide) (by first | assumption | rfl) rfl (by first | assumption | rfl) ?_
              -- at 44: .ifCond .eq 17
              have hsz : (n = 0 ∨ 20 < n) → tw X (d + 2) kX7_showedRefused (qi (fun v μ' => match sref σ x (nI j) with | none => v = nI 0 ∧ μ' = μ | some p => v = p.1 ∧ CI μ' p.2 ∧ fr μ μ' ∧ ¬ v = 0)) 61 [.ref 2, .int x, .int (nI j)] [] μ := by
                intro hn
                have e : sref σ x (nI j) = some (-3, gF σ 5) := by simp only [sref, hx, hr, ho]; rw [if_pos hn]
                rw [e]
                refine tr_aload_n dX7_showedRefused_61 rfl ?_
                refine tr_iconst (v := nI 5) dX7_showedRefused_62 (by decide) ?_
                -- at 63: .invokevirtual 88
                refine tr_Vi (As := [_]) dX7_showedRefused_63 fm_RX7_88 rfl rfl (by first | assumption | decide) (by first | assumption | rfl) (Nat.le_of_ble_eq_true rfl) (c_found (d := d + 1) (k := 5) (by omega) h) (fun v μ1 ⟨e1, e2, e3⟩ => ?_)
                refine tr_iret dX7_showedRefused_66 (by first | exact trivial | rfl) ⟨e1, e2, e3, by rw [e1]; exact m3_ne⟩
              refine tr_if0N (tgt := 61) dX7_showedRefused_44 (by decide) (by omega) (fun h4 => ?_) (fun h4 => ?_)
              · exact hsz (Or.inl h4)
              · refine tr_aload_n dX7_showedRefused_47 rfl ?_
                refine tr_getR dX7_showedRefused_48 fg_RX7_11 (by first | assumption | decide) (by first | assumption | rfl) rfl (by omega) ?_
                refine tr_iload_n dX7_showedRefused_51 rfl ?_
                -- at 52: .aaload
                refine tr_aald dX7_showedRefused_52 (by first | assumption | decide) (by first | assumption | rfl) (by decide) rfl (row_at hj) (by decide) ?_
                refine tr_getI dX7_showedRefused_53 fg_RX7_109 (by first | assumption | decide) (by first | assumption | rfl) rfl (by first | assumption | rfl) ?_
                refine tr_bipush (v := nI 20) dX7_showedRefused_56 (by decide) ?_
                -- at 58: .if_icmp .le 9
                refine tr_leN (tgt := 67) dX7_showedRefused_58 (by decide) (by omega) (by omega) (fun h5 => ?_) (fun h5 => ?_)
                · refine tr_aload_n dX7_showedRefused_67 rfl ?_
                  refine tr_getR dX7_showedRefused_68 fg_RX7_11 (by first | assumption | decide) (by first | assumption | rfl) rfl (by omega) ?_
                  refine tr_iload_n dX7_showedRefused_71 rfl ?_
                  -- at 72: .aaload
                  refine tr_aald dX7_showedRefused_72 (by first | assumption | decide) (by first | assumption | rfl) (by decide) rfl (row_at hj) (by decide) ?_
                  refine tr_bipush (v := nI 9) dX7_showedRefused_73 (by decide) ?_
                  -- at 75: .invokevirtual 319
                  refine tr_Vi (As := [_]) dX7_showedRefused_75 fm_RX7_319 rfl rfl (by first | assumption | decide) (by first | assumption | rfl) (Nat.le_of_ble_eq_true rfl) (c_within (d := d + 1) (isR_r hj) hX) (fun v μ1 ⟨e1, e2⟩ => ?_)
                  subst μ1; subst v
                  refine tr_ifb0 (tgt := 85) dX7_showedRefused_78 (by decide) (fun h6 => ?_) (fun h6 => ?_)
                  · have e : sref σ x (nI j) = some (-3, gF σ 3) := by simp only [sref, hx, hr, ho]; rw [if_neg (by omega), if_neg (by rw [h6]; decide)]
                    rw [e]
                    refine tr_aload_n dX7_showedRefused_85 rfl ?_
                    refine tr_iconst (v := nI 3) dX7_showedRefused_86 (by decide) ?_
                    -- at 87: .invokevirtual 88
                    refine tr_Vi (As := [_]) dX7_showedRefused_87 fm_RX7_88 rfl rfl (by first | assumption | decide) (by first | assumption | rfl) (Nat.le_of_ble_eq_true rfl) (c_found (d := d + 1) (k := 3) (by omega) h) (fun v μ1 ⟨e1, e2, e3⟩ => ?_)
                    refine tr_iret dX7_showedRefused_90 (by first | exact trivial | rfl) ⟨e1, e2, e3, by rw [e1]; exact m3_ne⟩
                  · have e : sref σ x (nI j) = none := by simp only [sref, hx, hr, ho]; rw [if_neg (by omega), if_pos h6]
                    rw [e]
                    refine tr_iconst (v := nI 0) dX7_showedRefused_81 (by decide) ?_
                    refine tr_goto (tgt := 90) dX7_showedRefused_82 (by decide) ?_
                    -- at 90: .ireturn
                    refine tr_iret dX7_showedRefused_90 (by first | exact trivial | rfl) ⟨rfl, rfl⟩
                · exact hsz (Or.inr (by omega))
            · cases h3
        · cases h2
theorem l_soonest {m0 : am_M} {v0 : Int32} (hW : WI σ) (hj : j < 6) (ho : sR σ j = some (n, f)) (hwi : withM n f (nI (10 ^ nowM σ 18 - 1)) = true) (hS : S_soonest σ (nI j) = match (sooM (nowM σ) f n).1 with | none => (-9, σ) | some i => (nI i, gA σ (nI (sooM (nowM σ) f n).2))) : ∀ (m i : Nat) (v6 : Value) (μ : am_M), i + m = n → CI μ σ → fr m0 μ → tw X (d + 4) kX7_soonest (PO m0 (S_soonest σ (nI j))) 31 [.ref 2, .int (nI j), .int v0, .int (kdR (sooM (nowM σ) f i).1), .int (nI (sooM (nowM σ) f i).2), .int (nI i), v6] [] μ
  | m, i, v6, μ, him, h, hf => by
    have hw := hW.now
    have hw1 := hw.1
    have h10 := ten_le hw1
    obtain ⟨⟨i0, i1⟩, s0, s1⟩ := isR_r hj
    have hX := h.1 j hj
    rw [ho] at hX
    have k1 := hX.1
    have k2 := hX.2.1
    refine tr_iload dX7_soonest_31 rfl ?_
    refine tr_aload_n dX7_soonest_33 rfl ?_
    refine tr_getR dX7_soonest_34 fg_RX7_11 (by first | assumption | decide) (by first | assumption | rfl) rfl (by omega) ?_
    refine tr_iload_n dX7_soonest_37 rfl ?_
    -- at 38: .aaload
    refine tr_aald dX7_soonest_38 (by first | assumption | decide) (by first | assumption | rfl) (by decide) rfl (row_at hj) (by decide) ?_
    refine tr_getI dX7_soonest_39 fg_RX7_109 (by first | assumption | decide) (by first | assumption | rfl) rfl (by first | assumption | rfl) ?_
    -- at 42: .if_icmp .ge 66
    refine tr_geN (tgt := 108) dX7_soonest_42 (by decide) (by omega) (by omega) (fun h1 => ?_) (fun h1 => ?_)
    · obtain rfl : i = n := by omega
      have hle := (sooM_le (nowM σ) f i).2
      rw [hS]
      refine tr_iload_n dX7_soonest_108 rfl ?_
      refine tr_bipush (v := -9) dX7_soonest_109 (by decide) ?_
      -- at 111: .if_icmp .eq 9
      cases hb : (sooM (nowM σ) f i).1 with
      | none =>
        refine tr_icmp_eq (tgt := 120) dX7_soonest_111 (by decide) (fun h2 => ?_) (fun h2 => ?_)
        · refine tr_iload_n dX7_soonest_120 rfl ?_
          -- at 121: .ireturn
          refine tr_iret dX7_soonest_121 (by first | exact trivial | rfl) ⟨rfl, h, hf⟩
        · exact absurd rfl h2
      | some q =>
        have hq := hle q hb
        refine tr_icmp_eq (tgt := 120) dX7_soonest_111 (by decide) (fun h2 => ?_) (fun h2 => ?_)
        · exact absurd h2 (nI_m9 (by omega))
        · refine tr_aload_n dX7_soonest_114 rfl ?_
          refine tr_iload dX7_soonest_115 rfl ?_
          refine tr_putI dX7_soonest_117 fp_RX7_103 (by first | assumption | decide) (by first | assumption | rfl) rfl ?_
          refine tr_iload_n dX7_soonest_120 rfl ?_
          -- at 121: .ireturn
          refine tr_iret dX7_soonest_121 (by first | exact trivial | rfl) ⟨rfl, h.asked _, hf.trans ((((sP.rf (fun b => b = 2) μ).put _ rfl)).fr (fun b hb => by omega))⟩
    · have hfi := of_decide_eq_true hwi i h1
      obtain ⟨q, hq, eq⟩ := nI_of (Int32.not_lt.mpr hfi.1)
      have hq2 : q ≤ 10 ^ nowM σ 18 - 1 := by
        have := hfi.2
        rw [eq] at this
        exact (nI_leI hq (by omega)).mp this
      have k3 : μ.1 (73 + 2 * j + 1) i = nI q := by rw [hX.2.2 i h1]; exact eq
      have ecl : (f i).toNatClampNeg = q := by rw [eq, nI_clamp hq]
      have hle := (sooM_le (nowM σ) f i).1
      refine tr_aload_n dX7_soonest_45 rfl ?_
      refine tr_getR dX7_soonest_46 fg_RX7_31 (by first | assumption | decide) (by first | assumption | rfl) rfl (by omega) ?_
      refine tr_aload_n dX7_soonest_49 rfl ?_
      refine tr_getR dX7_soonest_50 fg_RX7_28 (by first | assumption | decide) (by first | assumption | rfl) rfl (by omega) ?_
      -- at 53: .invokevirtual 142
      refine tr_Vv (As := [_]) dX7_soonest_53 fm_RX7_142 rfl rfl (by first | assumption | decide) (by first | assumption | rfl) (Nat.le_of_ble_eq_true rfl) (c_become (d := d + 3) isB_15 isB_10 (by omega) h.2.2.2.1 hw) (fun μ1 ⟨e1, e2⟩ => ?_)
      have hs1 := sP.of (P := scr) e1 (fun b hb => by simp at hb; unfold scr; omega)
      have k3 : μ1.1 (73 + 2 * j + 1) i = nI q := by rw [(hs1 (73 + 2 * j + 1) (by unfold scr; omega)).1]; exact k3
      refine tr_aload_n dX7_soonest_56 rfl ?_
      refine tr_getR dX7_soonest_57 fg_RX7_31 (by first | assumption | decide) (by first | assumption | rfl) rfl (by omega) ?_
      refine tr_aload_n dX7_soonest_60 rfl ?_
      refine tr_getR dX7_soonest_61 fg_RX7_11 (by first | assumption | decide) (by first | assumption | rfl) rfl (by omega) ?_
      refine tr_iload_n dX7_soonest_64 rfl ?_
      -- at 65: .aaload
      refine tr_aald dX7_soonest_65 (by first | assumption | decide) (by first | assumption | rfl) (by decide) rfl (row_at hj) (by decide) ?_
      refine tr_getR dX7_soonest_66 fg_RX7_100 (by first | assumption | decide) (by first | assumption | rfl) rfl (by omega) ?_
      refine tr_iload dX7_soonest_69 rfl ?_
      refine tr_iald dX7_soonest_71 (by first | assumption | decide) (by first | assumption | rfl) rfl (by omega) (by omega) (by first | assumption | rfl) ?_
      -- at 72: .invokevirtual 239
      refine tr_Vv (As := [_]) dX7_soonest_72 fm_RX7_239 rfl rfl (by first | assumption | decide) (by first | assumption | rfl) (Nat.le_of_ble_eq_true rfl) (c_aimAt (d := d + 3) hq isB_15 e2 hw) (fun μ2 ⟨e3, e4⟩ => ?_)
      have hs2 := hs1.trans (sP.of (P := scr) e3 (fun b hb => by simp at hb; unfold scr; omega))
      refine tr_aload_n dX7_soonest_75 rfl ?_
      refine tr_getR dX7_soonest_76 fg_RX7_31 (by first | assumption | decide) (by first | assumption | rfl) rfl (by omega) ?_
      refine tr_iload dX7_soonest_79 rfl ?_
      refine tr_iconst (v := nI 1) dX7_soonest_81 (by decide) ?_
      -- at 82: .isub
      refine tr_isub dX7_soonest_82 ?_
      refine tr_Vi (As := [_]) dX7_soonest_83 fm_RX7_218 rfl rfl (by first | assumption | decide) (by first | assumption | rfl) (Nat.le_of_ble_eq_true rfl) (c_ticks (d := d) (N := (sooM (nowM σ) f i).2) (by omega) isB_15 e4 (aimM_wf _ _ _ hw1 hw)) (fun v μ3 ⟨e5, e6, e7, e8⟩ => ?_)
      subst v
      have hs3 := hs2.trans (sP.of (P := scr) e5 (fun b hb => by simp at hb; unfold scr; omega))
      have hc := h.scr hs3
      have hf3 := hf.trans (hs3.fr (fun b hb => by unfold scr at hb; omega))
      have hmin := tM_min (sooM (nowM σ) f i).2 61 (aimM (nowM σ 18) q (nowM σ)) hle
      refine tr_istore_6 dX7_soonest_86 (by decide) rfl ?_
      refine tr_iload dX7_soonest_88 rfl ?_
      refine tr_iload dX7_soonest_90 rfl ?_
      -- at 92: .if_icmp .ge 10
      refine tr_geN (tgt := 102) dX7_soonest_92 (by decide) (by omega) (by omega) (fun h2 => ?_) (fun h2 => ?_)
      · have e : sooM (nowM σ) f (i + 1) = sooM (nowM σ) f i := by rw [sooM, if_neg (by rw [ecl]; omega)]
        first | with_reducible refine tr_iincN_5 dX7_soonest_102 (by decide) rfl ?_ | refine tr_iinc_5 dX7_soonest_102 (by decide) rfl ?_
        refine tr_goto (tgt := 31) dX7_soonest_105 (by decide) ?_
        -- at 31: .iload 5
        have key := l_soonest (v0 := v0) hW hj ho hwi hS (m - 1) (i + 1) (.int (nI (tM (sooM (nowM σ) f i).2 (aimM (nowM σ 18) q (nowM σ))))) μ3 (by omega) hc hf3
        rw [e] at key
        exact key
      · have e : sooM (nowM σ) f (i + 1) = (some i, tM 61 (aimM (nowM σ 18) q (nowM σ))) := by rw [sooM, if_pos (by rw [ecl]; omega), ecl]
        refine tr_iload dX7_soonest_95 rfl ?_
        refine tr_istore_4 dX7_soonest_97 (by decide) rfl ?_
        refine tr_iload dX7_soonest_99 rfl ?_
        refine tr_istore_n_3 dX7_soonest_101 (by decide) rfl ?_
        first | with_reducible refine tr_iincN_5 dX7_soonest_102 (by decide) rfl ?_ | refine tr_iinc_5 dX7_soonest_102 (by decide) rfl ?_
        refine tr_goto (tgt := 31) dX7_soonest_105 (by decide) ?_
        -- at 31: .iload 5
        have key := l_soonest (v0 := v0) hW hj ho hwi hS (m - 1) (i + 1) (.int (nI (tM (sooM (nowM σ) f i).2 (aimM (nowM σ 18) q (nowM σ))))) μ3 (by omega) hc hf3
        rw [e] at key
        rw [show tM (sooM (nowM σ) f i).2 (aimM (nowM σ 18) q (nowM σ)) = tM 61 (aimM (nowM σ 18) q (nowM σ)) by omega] at key ⊢
        exact key
  termination_by m => m
theorem f_soonest (h : CI μ σ) (hW : WI σ) : cp X (d + 5) kX7_soonest [.ref 2, .int r] μ (PO μ (S_soonest σ r)) := by
  refine cp_of ok_X7_soonest (L := [.ref 2, .int r, .float 0, .float 0, .float 0, .float 0, .float 0]) rfl ?_
  refine tr_iload_n dX7_soonest_0 rfl ?_
  -- at 1: .invokestatic 84
  refine tr_Si (As := [_]) dX7_soonest_1 fm_RX7_84 rfl rfl (Nat.le_of_ble_eq_true rfl) (c_isRow (d := d + 3)) (fun v μ1 ⟨e1, e2⟩ => ?_)
  subst μ1; subst v
  cases hr : ixV r 6 with
  | none =>
    refine tr_ifb1 (tgt := 9) dX7_soonest_4 (by decide) (fun h1 => ?_) (fun h1 => ?_)
    · cases h1
    · refine tr_iconst (v := -1) dX7_soonest_7 (by decide) ?_
      -- at 8: .ireturn
      refine tr_iret dX7_soonest_8 (by first | exact trivial | rfl) (po_same h (by simp only [S_soonest, hr]))
  | some j =>
    obtain ⟨rfl, hj⟩ := ixV_some (by omega) hr
    refine tr_ifb1 (tgt := 9) dX7_soonest_4 (by decide) (fun h1 => ?_) (fun h1 => ?_)
    · refine tr_aload_n dX7_soonest_9 rfl ?_
      refine tr_iload_n dX7_soonest_10 rfl ?_
      -- at 11: .invokevirtual 236
      refine tr_Vi (As := [_]) dX7_soonest_11 fm_RX7_236 rfl rfl (by first | assumption | decide) (by first | assumption | rfl) (Nat.le_of_ble_eq_true rfl) (c_mref (d := d + 1) h hW hj) (fun v μ1 hm => ?_)
      cases hq : mref σ j with
      | some p =>
        rw [hq] at hm
        obtain ⟨m1, m2, m3, m4⟩ := hm
        have e : S_soonest σ (nI j) = p := by simp only [S_soonest, hr, hq]
        rw [e]
        refine tr_istore_n_2 dX7_soonest_14 (by decide) rfl ?_
        refine tr_iload_n dX7_soonest_15 rfl ?_
        -- at 16: .ifCond .eq 5
        refine tr_if_eq (tgt := 21) dX7_soonest_16 (by decide) (fun h2 => ?_) (fun h2 => ?_)
        · exact absurd h2 m4
        · refine tr_iload_n dX7_soonest_19 rfl ?_
          -- at 20: .ireturn
          refine tr_iret dX7_soonest_20 (by first | exact trivial | rfl) ⟨m1, m2, m3⟩
      | none =>
        rw [hq] at hm
        obtain ⟨m1, m2⟩ := hm
        subst v; subst μ1
        cases ho : sR σ j with
        | none =>
          unfold mref at hq
          rw [ho] at hq
          split at hq <;> cases hq
        | some w =>
          obtain ⟨n, f⟩ := w
          have hwi : withM n f (nI (10 ^ nowM σ 18 - 1)) = true := by
            unfold mref at hq
            rw [ho] at hq
            dsimp only at hq
            split at hq
            · cases hq
            · split at hq
              · cases hq
              · split at hq
                · assumption
                · cases hq
          have hS : S_soonest σ (nI j) = match (sooM (nowM σ) f n).1 with | none => (-9, σ) | some i => (nI i, gA σ (nI (sooM (nowM σ) f n).2)) := by simp only [S_soonest, hr, hq, ho]
          refine tr_istore_n_2 dX7_soonest_14 (by decide) rfl ?_
          refine tr_iload_n dX7_soonest_15 rfl ?_
          -- at 16: .ifCond .eq 5
          refine tr_if0N (tgt := 21) dX7_soonest_16 (by decide) (by omega) (fun h2 => ?_) (fun h2 => ?_)
          · refine tr_bipush (v := -9) dX7_soonest_21 (by decide) ?_
            refine tr_istore_n_3 dX7_soonest_23 (by decide) rfl ?_
            refine tr_bipush (v := nI 61) dX7_soonest_24 (by decide) ?_
            refine tr_istore_4 dX7_soonest_26 (by decide) rfl ?_
            refine tr_iconst (v := nI 0) dX7_soonest_28 (by decide) ?_
            refine tr_istore_5 dX7_soonest_29 (by decide) rfl ?_
            -- at 31: .iload 5
            exact l_soonest hW hj ho hwi hS n 0 _ μ (by omega) h (fr.rf μ)
          · omega
    · cases h1
def NL (μ : am_M) (s : List Nat) : Prop := s.length ≤ 61 ∧ (∀ v ∈ s, v < 10000000) ∧ ∀ i, i < s.length → μ.1 62 i = nI (s.getD i 0)
theorem l_among {v : Nat} (hv : v < 10000000) {s : List Nat} (hs : NL μ s) : ∀ (m i : Nat), i + m = s.length → (∀ q, q < i → s.getD q 0 ≠ v) → tw X d kX7_isAmongNumbers (qi (fun r μ' => μ' = μ ∧ r = nI (bN (decide (v ∈ s))))) 2 [.ref 2, .int (nI v), .int (nI s.length), .int (nI i)] [] μ
  | m, i, him, hq => by
    have h0 := hs.1
    refine tr_iload_n dX7_isAmongNumbers_2 rfl ?_
    refine tr_iload_n dX7_isAmongNumbers_3 rfl ?_
    -- at 4: .if_icmp .ge 21
    refine tr_geN (tgt := 25) dX7_isAmongNumbers_4 (by decide) (by omega) (by omega) (fun h1 => ?_) (fun h1 => ?_)
    · refine tr_iconst (v := nI 0) dX7_isAmongNumbers_25 (by decide) ?_
      -- at 26: .ireturn
      refine tr_iret dX7_isAmongNumbers_26 (by first | exact trivial | rfl) ⟨rfl, by
        rw [decide_eq_false (fun hm => by
          obtain ⟨q, q1, q2⟩ := List.getElem_of_mem hm
          refine hq q (by omega) ?_
          rw [List.getD_eq_getElem?_getD, List.getElem?_eq_getElem q1]
          exact q2)]
        rfl⟩
    · have h2 := hs.2.2 i h1
      have hin : s.getD i 0 ∈ s := by
        rw [List.getD_eq_getElem?_getD, List.getElem?_eq_getElem h1]
        exact List.getElem_mem _
      have h3 := hs.2.1 _ hin
      refine tr_aload_n dX7_isAmongNumbers_7 rfl ?_
      refine tr_getR dX7_isAmongNumbers_8 fg_RX7_55 (by first | assumption | decide) (by first | assumption | rfl) rfl (by omega) ?_
      refine tr_iload_n dX7_isAmongNumbers_11 rfl ?_
      refine tr_iald dX7_isAmongNumbers_12 (by first | assumption | decide) (by first | assumption | rfl) rfl (by omega) (by omega) (by first | assumption | rfl) ?_
      refine tr_iload_n dX7_isAmongNumbers_13 rfl ?_
      -- at 14: .if_icmp .ne 5
      refine tr_neN (tgt := 19) dX7_isAmongNumbers_14 (by decide) (by omega) (by omega) (fun h4 => ?_) (fun h4 => ?_)
      · first | with_reducible refine tr_iincN_3 dX7_isAmongNumbers_19 (by decide) rfl ?_ | refine tr_iinc_3 dX7_isAmongNumbers_19 (by decide) rfl ?_
        refine tr_goto (tgt := 2) dX7_isAmongNumbers_22 (by decide) ?_
        -- at 2: .iload_n 3
        exact l_among hv hs (m - 1) (i + 1) (by omega) (fun q h => by
          by_cases e : q = i
          · subst e; exact h4
          · exact hq q (by omega))
      · refine tr_iconst (v := nI 1) dX7_isAmongNumbers_17 (by decide) ?_
        -- at 18: .ireturn
        refine tr_iret dX7_isAmongNumbers_18 (by first | exact trivial | rfl) ⟨rfl, by rw [decide_eq_true (by rw [← h4]; exact hin)]; rfl⟩
  termination_by m => m
theorem c_among {v : Nat} (hv : v < 10000000) {s : List Nat} (hs : NL μ s) : cp X (d + 1) kX7_isAmongNumbers [.ref 2, .int (nI v), .int (nI s.length)] μ (qi (fun r μ' => μ' = μ ∧ r = nI (bN (decide (v ∈ s))))) := by
  refine cp_of ok_X7_isAmongNumbers (L := [.ref 2, .int (nI v), .int (nI s.length), .float 0]) rfl ?_
  refine tr_iconst (v := nI 0) dX7_isAmongNumbers_0 (by decide) ?_
  refine tr_istore_n_3 dX7_isAmongNumbers_1 (by decide) rfl ?_
  -- at 2: .iload_n 3
  exact l_among hv hs s.length 0 (by omega) (fun q h => by omega)
theorem l_passes {m0 : am_M} (hW : WI σ) {P : Int32 × SG} : ∀ (m t : Nat) (c : NF) (s : List Nat) (g : Nat) (v4 : Value) (μ : am_M), t + m = 60 → wfc c → BR μ 15 c → NL μ s → s.length ≤ t + 1 → g < 10000000 → CI μ σ → fr m0 μ → P = (nI (pasM m c s g).1.length, gA σ (nI (pasM m c s g).2)) → tw X (d + 4) kX7_passes (PO m0 P) 48 [.ref 2, .int (nI s.length), .int (nI g), .int (nI t), v4] [] μ
  | m, t, c, s, g, v4, μ, htm, hw, hr, hn, hs, hg, h, hf, hP => by
    have hend : pasM m c s g = (s, g) → tw X (d + 4) kX7_passes (PO m0 P) 114 [.ref 2, .int (nI s.length), .int (nI g), .int (nI t), v4] [] μ := by
      intro e
      rw [e] at hP
      subst hP
      refine tr_aload_n dX7_passes_114 rfl ?_
      refine tr_iload_n dX7_passes_115 rfl ?_
      refine tr_putI dX7_passes_116 fp_RX7_103 (by first | assumption | decide) (by first | assumption | rfl) rfl ?_
      refine tr_iload_n dX7_passes_119 rfl ?_
      -- at 120: .ireturn
      refine tr_iret dX7_passes_120 (by first | exact trivial | rfl) ⟨rfl, h.asked _, hf.trans ((((sP.rf (fun b => b = 2) μ).put _ rfl)).fr (fun b hb => by omega))⟩
    refine tr_iload_n dX7_passes_48 rfl ?_
    refine tr_bipush (v := nI 60) dX7_passes_49 (by decide) ?_
    -- at 51: .if_icmp .ge 63
    refine tr_geN (tgt := 114) dX7_passes_51 (by decide) (by omega) (by omega) (fun h1 => ?_) (fun h1 => ?_)
    · exact hend (by rw [show m = 0 by omega]; rfl)
    · obtain ⟨m', rfl⟩ : ∃ m', m = m' + 1 := ⟨m - 1, by omega⟩
      refine tr_aload_n dX7_passes_54 rfl ?_
      refine tr_getR dX7_passes_55 fg_RX7_31 (by first | assumption | decide) (by first | assumption | rfl) rfl (by omega) ?_
      -- at 58: .invokevirtual 221
      refine tr_Vi (As := []) dX7_passes_58 fm_RX7_221 rfl rfl (by first | assumption | decide) (by first | assumption | rfl) (Nat.le_of_ble_eq_true rfl) (c_isTold (d := d + 3) isB_15 hr hw) (fun v μ1 ⟨e1, e2⟩ => ?_)
      subst μ1; subst v
      refine tr_ifb1 (tgt := 114) dX7_passes_61 (by decide) (fun h2 => ?_) (fun h2 => ?_)
      · exact hend (by rw [pasM, if_pos h2])
      · refine tr_aload_n dX7_passes_64 rfl ?_
        refine tr_getR dX7_passes_65 fg_RX7_31 (by first | assumption | decide) (by first | assumption | rfl) rfl (by omega) ?_
        -- at 68: .invokevirtual 224
        refine tr_Vv (As := []) dX7_passes_68 fm_RX7_224 rfl rfl (by first | assumption | decide) (by first | assumption | rfl) (Nat.le_of_ble_eq_true rfl) (c_step (d := d + 1) isB_15 hr hw) (fun μ1 ⟨e1, e2⟩ => ?_)
        have hs1 := sP.of (P := scr) e1 (fun b hb => by simp at hb; unfold scr; omega)
        have hc1 := h.scr hs1
        have hf1 := hf.trans (hs1.fr (fun b hb => by unfold scr at hb; omega))
        have hn1 : NL μ1 s := ⟨hn.1, hn.2.1, fun i hi => by rw [e1.1 62 (by decide)]; exact hn.2.2 i hi⟩
        have hw' := goC_wf hw
        have e18 : goC c 18 = c 18 := goC_keep hw (by omega) (by omega) (by omega)
        have hv := numM_31 hw' hw.1
        refine tr_aload_n dX7_passes_71 rfl ?_
        refine tr_getR dX7_passes_72 fg_RX7_31 (by first | assumption | decide) (by first | assumption | rfl) rfl (by omega) ?_
        -- at 75: .invokevirtual 214
        refine tr_Vi (As := []) dX7_passes_75 fm_RX7_214 rfl rfl (by first | assumption | decide) (by first | assumption | rfl) (Nat.le_of_ble_eq_true rfl) (c_number (d := d + 3) isB_15 e2 hw') (fun v μ2 ⟨g1, g2⟩ => ?_)
        subst μ2; subst v
        rw [e18]
        refine tr_istore_4 dX7_passes_78 (by decide) rfl ?_
        refine tr_iload_n dX7_passes_80 rfl ?_
        refine tr_iload dX7_passes_81 rfl ?_
        -- at 83: .invokestatic 227
        refine tr_Si (As := [_, _]) dX7_passes_83 fm_RX7_227 rfl rfl (Nat.le_of_ble_eq_true rfl) (c_max (d := d + 3) (by omega) (by omega)) (fun v μ2 ⟨g1, g2⟩ => ?_)
        subst μ2; subst v
        have hmx : max g (numM (goC c) (c 18)) < 10000000 := by omega
        refine tr_istore_n_2 dX7_passes_86 (by decide) rfl ?_
        refine tr_aload_n dX7_passes_87 rfl ?_
        refine tr_iload dX7_passes_88 rfl ?_
        refine tr_iload_n dX7_passes_90 rfl ?_
        -- at 91: .invokevirtual 230
        refine tr_Vi (As := [_, _]) dX7_passes_91 fm_RX7_230 rfl rfl (by first | assumption | decide) (by first | assumption | rfl) (Nat.le_of_ble_eq_true rfl) (c_among (d := d + 3) hv hn1) (fun v μ2 ⟨g1, g2⟩ => ?_)
        subst μ2; subst v
        refine tr_ifb1 (tgt := 108) dX7_passes_94 (by decide) (fun h3 => ?_) (fun h3 => ?_)
        · have h3' := of_decide_eq_true h3
          first | with_reducible refine tr_iincN_3 dX7_passes_108 (by decide) rfl ?_ | refine tr_iinc_3 dX7_passes_108 (by decide) rfl ?_
          refine tr_goto (tgt := 48) dX7_passes_111 (by decide) ?_
          -- at 48: .iload_n 3
          have ep : pasM (m' + 1) c s g = pasM m' (goC c) s (max g (numM (goC c) (c 18))) := by rw [pasM, if_neg (by rw [h2]; decide), if_pos h3']
          rw [ep] at hP
          exact l_passes hW m' (t + 1) (goC c) s (max g (numM (goC c) (c 18))) (.int (nI (numM (goC c) (c 18)))) μ1 (by omega) hw' e2 hn1 (by omega) hmx hc1 hf1 hP
        · have h3' := of_decide_eq_false h3
          have hsl := hn.1
          refine tr_aload_n dX7_passes_97 rfl ?_
          refine tr_getR dX7_passes_98 fg_RX7_55 (by first | assumption | decide) (by first | assumption | rfl) rfl (by omega) ?_
          refine tr_iload_n dX7_passes_101 rfl ?_
          refine tr_iload dX7_passes_102 rfl ?_
          refine tr_iast dX7_passes_104 (by first | assumption | decide) (by first | assumption | rfl) rfl (by omega) (by omega) ?_
          -- at 105: .iinc 1 1
          have hs2 := (sP.rf scr μ1).put (a := 62) (upd (μ1.1 62) s.length (nI (numM (goC c) (c 18)))) (by unfold scr; omega)
          have hc2 := hc1.scr hs2
          have hf2 := hf1.trans (hs2.fr (fun b hb => by unfold scr at hb; omega))
          have hr2 : BR (sI μ1 62 (upd (μ1.1 62) s.length (nI (numM (goC c) (c 18))))) 15 (goC c) := e2.keep (fun b b1 b2 => sI_ne _ _ (by omega))
          have hn2 : NL (sI μ1 62 (upd (μ1.1 62) s.length (nI (numM (goC c) (c 18))))) (s ++ [numM (goC c) (c 18)]) := by
            refine ⟨by simp; omega, fun v hv2 => ?_, fun i hi => ?_⟩
            · rcases List.mem_append.mp hv2 with q | q
              · exact hn.2.1 v q
              · rw [List.mem_singleton.mp q]; exact hv
            · rw [sI_same]
              rw [List.length_append, List.length_singleton] at hi
              by_cases e : i = s.length
              · subst e; rw [pk_us]; simp
              · rw [pk_un e, hn1.2.2 i (by omega)]
                simp [List.getD_eq_getElem?_getD, List.getElem?_append_left (show i < s.length by omega)]
          generalize sI μ1 62 (upd (μ1.1 62) s.length (nI (numM (goC c) (c 18)))) = μ3 at hc2 hf2 hr2 hn2 ⊢
          first | with_reducible refine tr_iincN_1 dX7_passes_105 (by decide) rfl ?_ | refine tr_iinc_1 dX7_passes_105 (by decide) rfl ?_
          first | with_reducible refine tr_iincN_3 dX7_passes_108 (by decide) rfl ?_ | refine tr_iinc_3 dX7_passes_108 (by decide) rfl ?_
          refine tr_goto (tgt := 48) dX7_passes_111 (by decide) ?_
          -- at 48: .iload_n 3
          have ep : pasM (m' + 1) c s g = pasM m' (goC c) (s ++ [numM (goC c) (c 18)]) (max g (numM (goC c) (c 18))) := by rw [pasM, if_neg (by rw [h2]; decide), if_neg h3']
          rw [ep] at hP
          have key := l_passes (m0 := m0) hW (P := P) m' (t + 1) (goC c) (s ++ [numM (goC c) (c 18)]) (max g (numM (goC c) (c 18))) (.int (nI (numM (goC c) (c 18)))) μ3 (by omega) hw' hr2 hn2 (by simp; omega) hmx hc2 hf2 hP
          rw [List.length_append, List.length_singleton] at key
          exact key
theorem f_passes (h : CI μ σ) (hW : WI σ) : cp X (d + 5) kX7_passes [.ref 2] μ (PO μ (S_passes σ)) := by
  have hw := hW.now
  have hw1 := hw.1
  have r4 := h.2.2.2.1.1
  have hv := numM_31 hw hw1
  refine cp_of ok_X7_passes (L := [.ref 2, .float 0, .float 0, .float 0, .float 0]) rfl ?_
  refine tr_aload_n dX7_passes_0 rfl ?_
  refine tr_getR dX7_passes_1 fg_RX7_28 (by first | assumption | decide) (by first | assumption | rfl) rfl (by omega) ?_
  refine tr_getI dX7_passes_4 fg_RX7_149 (by first | assumption | decide) (by first | assumption | rfl) rfl (by first | assumption | rfl) ?_
  -- at 7: .ifCond .ne 6
  refine tr_ifnN (tgt := 13) dX7_passes_7 (by decide) (by omega) (fun h3 => ?_) (fun h3 => ?_)
  · have e : S_passes σ = (nI (pasM 60 (nowM σ) [numM (nowM σ) (nowM σ 18)] (numM (nowM σ) (nowM σ 18))).1.length, gA σ (nI (pasM 60 (nowM σ) [numM (nowM σ) (nowM σ 18)] (numM (nowM σ) (nowM σ 18))).2)) := by rw [S_passes, if_neg h3]
    rw [e]
    refine tr_aload_n dX7_passes_13 rfl ?_
    refine tr_getR dX7_passes_14 fg_RX7_31 (by first | assumption | decide) (by first | assumption | rfl) rfl (by omega) ?_
    refine tr_aload_n dX7_passes_17 rfl ?_
    refine tr_getR dX7_passes_18 fg_RX7_28 (by first | assumption | decide) (by first | assumption | rfl) rfl (by omega) ?_
    -- at 21: .invokevirtual 142
    refine tr_Vv (As := [_]) dX7_passes_21 fm_RX7_142 rfl rfl (by first | assumption | decide) (by first | assumption | rfl) (Nat.le_of_ble_eq_true rfl) (c_become (d := d + 3) isB_15 isB_10 (by omega) h.2.2.2.1 hw) (fun μ1 ⟨e1, e2⟩ => ?_)
    have hs1 := sP.of (P := scr) e1 (fun b hb => by simp at hb; unfold scr; omega)
    refine tr_aload_n dX7_passes_24 rfl ?_
    refine tr_getR dX7_passes_25 fg_RX7_55 (by first | assumption | decide) (by first | assumption | rfl) rfl (by omega) ?_
    refine tr_iconst (v := nI 0) dX7_passes_28 (by decide) ?_
    refine tr_aload_n dX7_passes_29 rfl ?_
    refine tr_getR dX7_passes_30 fg_RX7_31 (by first | assumption | decide) (by first | assumption | rfl) rfl (by omega) ?_
    -- at 33: .invokevirtual 214
    refine tr_Vi (As := []) dX7_passes_33 fm_RX7_214 rfl rfl (by first | assumption | decide) (by first | assumption | rfl) (Nat.le_of_ble_eq_true rfl) (c_number (d := d + 3) isB_15 e2 hw) (fun v μ2 ⟨g1, g2⟩ => ?_)
    subst μ2; subst v
    refine tr_iast dX7_passes_36 (by first | assumption | decide) (by first | assumption | rfl) rfl (by omega) (by omega) ?_
    -- at 37: .iconst 1
    have hs2 := hs1.put (a := 62) (upd (μ1.1 62) 0 (nI (numM (nowM σ) (nowM σ 18)))) (by unfold scr; omega)
    have hr2 : BR (sI μ1 62 (upd (μ1.1 62) 0 (nI (numM (nowM σ) (nowM σ 18))))) 15 (nowM σ) := e2.keep (fun b b1 b2 => sI_ne _ _ (by omega))
    have hn2 : NL (sI μ1 62 (upd (μ1.1 62) 0 (nI (numM (nowM σ) (nowM σ 18))))) [numM (nowM σ) (nowM σ 18)] := by
      refine ⟨by simp, fun v hv2 => by rw [List.mem_singleton.mp hv2]; exact hv, fun i hi => ?_⟩
      have : i = 0 := by simpa using hi
      subst this
      rw [sI_same, pk_us]
      rfl
    have k0 : (sI μ1 62 (upd (μ1.1 62) 0 (nI (numM (nowM σ) (nowM σ 18))))).1 62 0 = nI (numM (nowM σ) (nowM σ 18)) := by rw [sI_same, pk_us]
    generalize sI μ1 62 (upd (μ1.1 62) 0 (nI (numM (nowM σ) (nowM σ 18)))) = μ3 at hs2 hr2 hn2 k0 ⊢
    refine tr_iconst (v := nI 1) dX7_passes_37 (by decide) ?_
    refine tr_istore_n_1 dX7_passes_38 (by decide) rfl ?_
    refine tr_aload_n dX7_passes_39 rfl ?_
    refine tr_getR dX7_passes_40 fg_RX7_55 (by first | assumption | decide) (by first | assumption | rfl) rfl (by omega) ?_
    refine tr_iconst (v := nI 0) dX7_passes_43 (by decide) ?_
    refine tr_iald dX7_passes_44 (by first | assumption | decide) (by first | assumption | rfl) rfl (by omega) (by omega) (by first | assumption | rfl) ?_
    refine tr_istore_n_2 dX7_passes_45 (by decide) rfl ?_
    refine tr_iconst (v := nI 0) dX7_passes_46 (by decide) ?_
    refine tr_istore_n_3 dX7_passes_47 (by decide) rfl ?_
    -- at 48: .iload_n 3
    exact l_passes hW 60 0 (nowM σ) [numM (nowM σ) (nowM σ 18)] (numM (nowM σ) (nowM σ 18)) _ μ3 (by omega) hw hr2 hn2 (by simp) hv (h.scr hs2) (hs2.fr (fun b hb => by unfold scr at hb; omega)) rfl
  · refine tr_bipush (v := -4) dX7_passes_10 (by decide) ?_
    -- at 12: .ireturn
    refine tr_iret dX7_passes_12 (by first | exact trivial | rfl) (po_same h (by rw [S_passes, if_pos h3]))
end F5
