-- ===== Board: stepOn, isTold, rightOnes, number, aimAt, ticksTillTold, drumsOf; isOf =====
section B3
variable {X : Nat × (Nat → Int32)} {d : Nat} {μ : am_M} {a i : Nat} {c : NF}
theorem l_stepOn (hB : isB a) {N : Nat} (hN : N < 1000) : ∀ (m i : Nat) (c : NF) (μ : am_M), i + m = N → wfc c → BR μ a c → tw X (d + 3) kX0_stepOn (qv (fun μ' => same μ μ' [a, a + 2] ∧ BR μ' a (goI m c))) 2 [.ref a, .int (nI N), .int (nI i)] [] μ
  | m, i, c, μ, him, hw, hr => by
    have hB' := hB
    obtain ⟨⟨i0, i1, i2, i3, i4⟩, s0, s1, s2, s3, s4⟩ := hB
    refine tr_iload_n dX0_stepOn_2 rfl ?_
    refine tr_iload_n dX0_stepOn_3 rfl ?_
    -- at 4: .if_icmp .ge 13
    refine tr_geN (tgt := 17) dX0_stepOn_4 (by decide) (by omega) (by omega) (fun h1 => ?_) (fun h1 => ?_)
    · obtain rfl : m = 0 := by omega
      refine tr_vret dX0_stepOn_17 (by first | exact trivial | rfl) ⟨same.rf μ _, hr⟩
    · obtain ⟨m', rfl⟩ : ∃ m', m = m' + 1 := ⟨m - 1, by omega⟩
      refine tr_aload_n dX0_stepOn_7 rfl ?_
      -- at 8: .invokevirtual 64
      refine tr_Vv (As := []) dX0_stepOn_8 fm_RX0_64 rfl rfl (by first | assumption | decide) (by first | assumption | rfl) (Nat.le_of_ble_eq_true rfl) (c_step (d := d) hB' hr hw) (fun μ1 ⟨e1, e2⟩ => ?_)
      first | with_reducible refine tr_iincN_2 dX0_stepOn_11 (by decide) rfl ?_ | refine tr_iinc_2 dX0_stepOn_11 (by decide) rfl ?_
      refine tr_goto (tgt := 2) dX0_stepOn_14 (by decide) ?_
      -- at 2: .iload_n 2
      exact tw_mono (l_stepOn hB' hN m' (i + 1) (goC c) μ1 (by omega) (goC_wf hw) e2) (fun r μ' ⟨q1, q2, q3⟩ => ⟨q1, e1.trans q2, q3⟩)
theorem c_stepOn {N : Nat} (hN : N < 1000) (hB : isB a) (hr : BR μ a c) (hw : wfc c) : cp X (d + 4) kX0_stepOn [.ref a, .int (nI N)] μ (qv (fun μ' => same μ μ' [a, a + 2] ∧ BR μ' a (goI N c))) := by
  refine cp_of ok_X0_stepOn (L := [.ref a, .int (nI N), .float 0]) rfl ?_
  refine tr_iconst (v := nI 0) dX0_stepOn_0 (by decide) ?_
  refine tr_istore_n_2 dX0_stepOn_1 (by decide) rfl ?_
  -- at 2: .iload_n 2
  exact l_stepOn hB hN N 0 c μ (by omega) hw hr
theorem l_isTold (hB : isB a) (hr : BR μ a c) (hw : wfc c) : ∀ (m i : Nat), i + m = c 18 → (∀ q, q < i → c (4 + q) = c (11 + q)) → tw X d kX0_isTold (qi (fun v μ' => μ' = μ ∧ v = nI (bN (toldM c)))) 2 [.ref a, .int (nI i)] [] μ
  | m, i, him, hq => by
    have hB' := hB
    have hr' := hr
    obtain ⟨⟨i0, i1, i2, i3, i4⟩, s0, s1, s2, s3, s4⟩ := hB
    obtain ⟨r4, r5, r6, r7, r8, rr⟩ := hr
    have hw1 := hw.1
    refine tr_iload_n dX0_isTold_2 rfl ?_
    refine tr_aload_n dX0_isTold_3 rfl ?_
    refine tr_getI dX0_isTold_4 fg_RX0_24 (by first | assumption | decide) (by first | assumption | rfl) rfl (by first | assumption | rfl) ?_
    -- at 7: .if_icmp .ge 26
    refine tr_geN (tgt := 33) dX0_isTold_7 (by decide) (by omega) (by omega) (fun h1 => ?_) (fun h1 => ?_)
    · refine tr_iconst (v := nI 1) dX0_isTold_33 (by decide) ?_
      -- at 34: .ireturn
      refine tr_iret dX0_isTold_34 (by first | exact trivial | rfl) ⟨rfl, by
        have : toldM c = true := decide_eq_true (fun q h => hq q (by omega))
        rw [this]; rfl⟩
    · obtain ⟨q1, q2, q3, q4⟩ := rr i h1
      obtain ⟨w1, w2, w3, w4⟩ := hw.2.2.2 i (by omega)
      refine tr_aload_n dX0_isTold_10 rfl ?_
      refine tr_getR dX0_isTold_11 fg_RX0_15 (by first | assumption | decide) (by first | assumption | rfl) rfl (by omega) ?_
      refine tr_iload_n dX0_isTold_14 rfl ?_
      refine tr_iald dX0_isTold_15 (by first | assumption | decide) (by first | assumption | rfl) rfl (by omega) (by omega) (by first | assumption | rfl) ?_
      refine tr_aload_n dX0_isTold_16 rfl ?_
      refine tr_getR dX0_isTold_17 fg_RX0_18 (by first | assumption | decide) (by first | assumption | rfl) rfl (by omega) ?_
      refine tr_iload_n dX0_isTold_20 rfl ?_
      refine tr_iald dX0_isTold_21 (by first | assumption | decide) (by first | assumption | rfl) rfl (by omega) (by omega) (by first | assumption | rfl) ?_
      -- at 22: .if_icmp .eq 5
      refine tr_eqN (tgt := 27) dX0_isTold_22 (by decide) (by omega) (by omega) (fun h2 => ?_) (fun h2 => ?_)
      · first | with_reducible refine tr_iincN_1 dX0_isTold_27 (by decide) rfl ?_ | refine tr_iinc_1 dX0_isTold_27 (by decide) rfl ?_
        refine tr_goto (tgt := 2) dX0_isTold_30 (by decide) ?_
        -- at 2: .iload_n 1
        exact l_isTold hB' hr' hw (m - 1) (i + 1) (by omega) (fun q h => by
          by_cases e : q = i
          · subst e; exact h2
          · exact hq q (by omega))
      · refine tr_iconst (v := nI 0) dX0_isTold_25 (by decide) ?_
        -- at 26: .ireturn
        refine tr_iret dX0_isTold_26 (by first | exact trivial | rfl) ⟨rfl, by
          have : toldM c = false := decide_eq_false (fun h => h2 (h i h1))
          rw [this]; rfl⟩
  termination_by m => m
theorem c_isTold (hB : isB a) (hr : BR μ a c) (hw : wfc c) : cp X (d + 1) kX0_isTold [.ref a] μ (qi (fun v μ' => μ' = μ ∧ v = nI (bN (toldM c)))) := by
  refine cp_of ok_X0_isTold (L := [.ref a, .float 0]) rfl ?_
  refine tr_iconst (v := nI 0) dX0_isTold_0 (by decide) ?_
  refine tr_istore_n_1 dX0_isTold_1 (by decide) rfl ?_
  -- at 2: .iload_n 1
  exact l_isTold hB hr hw (c 18) 0 (by omega) (fun q h => by omega)
theorem l_rightOnes (hB : isB a) (hr : BR μ a c) (hw : wfc c) : ∀ (m i : Nat), i + m = c 18 → tw X d kX0_rightOnes (qi (fun v μ' => μ' = μ ∧ v = nI (rtM c (c 18)))) 4 [.ref a, .int (nI (rtM c i)), .int (nI i)] [] μ
  | m, i, him => by
    have hB' := hB
    have hr' := hr
    obtain ⟨⟨i0, i1, i2, i3, i4⟩, s0, s1, s2, s3, s4⟩ := hB
    obtain ⟨r4, r5, r6, r7, r8, rr⟩ := hr
    have hw1 := hw.1
    refine tr_iload_n dX0_rightOnes_4 rfl ?_
    refine tr_aload_n dX0_rightOnes_5 rfl ?_
    refine tr_getI dX0_rightOnes_6 fg_RX0_24 (by first | assumption | decide) (by first | assumption | rfl) rfl (by first | assumption | rfl) ?_
    -- at 9: .if_icmp .ge 30
    refine tr_geN (tgt := 39) dX0_rightOnes_9 (by decide) (by omega) (by omega) (fun h1 => ?_) (fun h1 => ?_)
    · refine tr_iload_n dX0_rightOnes_39 rfl ?_
      -- at 40: .ireturn
      refine tr_iret dX0_rightOnes_40 (by first | exact trivial | rfl) ⟨rfl, by rw [show i = c 18 by omega]⟩
    · obtain ⟨q1, q2, q3, q4⟩ := rr i h1
      obtain ⟨w1, w2, w3, w4⟩ := hw.2.2.2 i (by omega)
      refine tr_aload_n dX0_rightOnes_12 rfl ?_
      refine tr_getR dX0_rightOnes_13 fg_RX0_15 (by first | assumption | decide) (by first | assumption | rfl) rfl (by omega) ?_
      refine tr_iload_n dX0_rightOnes_16 rfl ?_
      refine tr_iald dX0_rightOnes_17 (by first | assumption | decide) (by first | assumption | rfl) rfl (by omega) (by omega) (by first | assumption | rfl) ?_
      refine tr_aload_n dX0_rightOnes_18 rfl ?_
      refine tr_getR dX0_rightOnes_19 fg_RX0_18 (by first | assumption | decide) (by first | assumption | rfl) rfl (by omega) ?_
      refine tr_iload_n dX0_rightOnes_22 rfl ?_
      refine tr_iald dX0_rightOnes_23 (by first | assumption | decide) (by first | assumption | rfl) rfl (by omega) (by omega) (by first | assumption | rfl) ?_
      -- at 24: .if_icmp .ne 9
      refine tr_neN (tgt := 33) dX0_rightOnes_24 (by decide) (by omega) (by omega) (fun h2 => ?_) (fun h2 => ?_)
      · first | with_reducible refine tr_iincN_2 dX0_rightOnes_33 (by decide) rfl ?_ | refine tr_iinc_2 dX0_rightOnes_33 (by decide) rfl ?_
        refine tr_goto (tgt := 4) dX0_rightOnes_36 (by decide) ?_
        -- at 4: .iload_n 2
        have e : rtM c i = rtM c (i + 1) := by rw [rtM, if_neg h2]; rfl
        rw [e]
        exact l_rightOnes hB' hr' hw (m - 1) (i + 1) (by omega)
      · refine tr_iload_n dX0_rightOnes_27 rfl ?_
        refine tr_iconst (v := nI 1) dX0_rightOnes_28 (by decide) ?_
        refine tr_iload_n dX0_rightOnes_29 rfl ?_
        refine tr_ishl dX0_rightOnes_30 ?_
        refine tr_ior dX0_rightOnes_31 ?_
        -- at 32: .istore_n 1
        refine tr_v (or_bit i (by omega) _ (rtM_lt c i)) ?_
        refine tr_istore_n_1 dX0_rightOnes_32 (by decide) rfl ?_
        first | with_reducible refine tr_iincN_2 dX0_rightOnes_33 (by decide) rfl ?_ | refine tr_iinc_2 dX0_rightOnes_33 (by decide) rfl ?_
        refine tr_goto (tgt := 4) dX0_rightOnes_36 (by decide) ?_
        -- at 4: .iload_n 2
        have e : rtM c i + 2 ^ i = rtM c (i + 1) := by rw [rtM, if_pos h2]
        rw [e]
        exact l_rightOnes hB' hr' hw (m - 1) (i + 1) (by omega)
  termination_by m => m
theorem c_rightOnes (hB : isB a) (hr : BR μ a c) (hw : wfc c) : cp X (d + 1) kX0_rightOnes [.ref a] μ (qi (fun v μ' => μ' = μ ∧ v = nI (rtM c (c 18)))) := by
  refine cp_of ok_X0_rightOnes (L := [.ref a, .float 0, .float 0]) rfl ?_
  refine tr_iconst (v := nI 0) dX0_rightOnes_0 (by decide) ?_
  refine tr_istore_n_1 dX0_rightOnes_1 (by decide) rfl ?_
  refine tr_iconst (v := nI 0) dX0_rightOnes_2 (by decide) ?_
  refine tr_istore_n_2 dX0_rightOnes_3 (by decide) rfl ?_
  -- at 4: .iload_n 2
  exact l_rightOnes hB hr hw (c 18) 0 (by omega)
theorem l_number (hB : isB a) (hr : BR μ a c) (hw : wfc c) : ∀ (m i : Nat), i + m = c 18 → tw X d kX0_number (qi (fun v μ' => μ' = μ ∧ v = nI (numM c (c 18)))) 4 [.ref a, .int (nI (numM c i)), .int (nI i)] [] μ
  | m, i, him => by
    have hB' := hB
    have hr' := hr
    obtain ⟨⟨i0, i1, i2, i3, i4⟩, s0, s1, s2, s3, s4⟩ := hB
    obtain ⟨r4, r5, r6, r7, r8, rr⟩ := hr
    have hw1 := hw.1
    refine tr_iload_n dX0_number_4 rfl ?_
    refine tr_aload_n dX0_number_5 rfl ?_
    refine tr_getI dX0_number_6 fg_RX0_24 (by first | assumption | decide) (by first | assumption | rfl) rfl (by first | assumption | rfl) ?_
    -- at 9: .if_icmp .ge 21
    refine tr_geN (tgt := 30) dX0_number_9 (by decide) (by omega) (by omega) (fun h1 => ?_) (fun h1 => ?_)
    · refine tr_iload_n dX0_number_30 rfl ?_
      -- at 31: .ireturn
      refine tr_iret dX0_number_31 (by first | exact trivial | rfl) ⟨rfl, by rw [show i = c 18 by omega]⟩
    · obtain ⟨q1, q2, q3, q4⟩ := rr i h1
      refine tr_iload_n dX0_number_12 rfl ?_
      refine tr_bipush (v := nI 10) dX0_number_13 (by decide) ?_
      first | with_reducible refine tr_imulN dX0_number_15 ?_ | refine tr_imul dX0_number_15 ?_
      refine tr_aload_n dX0_number_16 rfl ?_
      refine tr_getR dX0_number_17 fg_RX0_15 (by first | assumption | decide) (by first | assumption | rfl) rfl (by omega) ?_
      refine tr_iload_n dX0_number_20 rfl ?_
      refine tr_iald dX0_number_21 (by first | assumption | decide) (by first | assumption | rfl) rfl (by omega) (by omega) (by first | assumption | rfl) ?_
      first | with_reducible refine tr_iaddN dX0_number_22 ?_ | refine tr_iadd dX0_number_22 ?_
      refine tr_istore_n_1 dX0_number_23 (by decide) rfl ?_
      first | with_reducible refine tr_iincN_2 dX0_number_24 (by decide) rfl ?_ | refine tr_iinc_2 dX0_number_24 (by decide) rfl ?_
      refine tr_goto (tgt := 4) dX0_number_27 (by decide) ?_
      -- at 4: .iload_n 2
      exact l_number hB' hr' hw (m - 1) (i + 1) (by omega)
  termination_by m => m
theorem c_number (hB : isB a) (hr : BR μ a c) (hw : wfc c) : cp X (d + 1) kX0_number [.ref a] μ (qi (fun v μ' => μ' = μ ∧ v = nI (numM c (c 18)))) := by
  refine cp_of ok_X0_number (L := [.ref a, .float 0, .float 0]) rfl ?_
  refine tr_iconst (v := nI 0) dX0_number_0 (by decide) ?_
  refine tr_istore_n_1 dX0_number_1 (by decide) rfl ?_
  refine tr_iconst (v := nI 0) dX0_number_2 (by decide) ?_
  refine tr_istore_n_2 dX0_number_3 (by decide) rfl ?_
  -- at 4: .iload_n 2
  exact l_number hB hr hw (c 18) 0 (by omega)
theorem l_aimAt (hB : isB a) {msg : Int32} : ∀ (m r : Nat) (c : NF) (μ : am_M), m ≤ c 18 → r < 2 ^ 31 → wfc c → BR μ a c → tw X d kX0_aimAt (qv (fun μ' => same μ μ' [a, a + 3] ∧ BR μ' a (aimM m r c))) 9 [.ref a, .int msg, .int (nI r), .int (nI m - nI 1)] [] μ
  | 0, r, c, μ, hm, hrr, hw, hr => by
    refine tr_iload_n dX0_aimAt_9 rfl ?_
    -- at 10: .ifCond .lt 24
    refine tr_if_lt (tgt := 34) dX0_aimAt_10 (by decide) (fun h1 => ?_) (fun h1 => ?_)
    · refine tr_vret dX0_aimAt_34 (by first | exact trivial | rfl) ⟨same.rf μ _, hr⟩
    · exact absurd (by decide) h1
  | m + 1, r, c, μ, hm, hrr, hw, hr => by
    have hB' := hB
    have hr' := hr
    obtain ⟨⟨i0, i1, i2, i3, i4⟩, s0, s1, s2, s3, s4⟩ := hB
    obtain ⟨r4, r5, r6, r7, r8, rr⟩ := hr
    have hw1 := hw.1
    rw [show nI (m + 1) - nI 1 = nI m from nI_pred m]
    refine tr_iload_n dX0_aimAt_9 rfl ?_
    -- at 10: .ifCond .lt 24
    refine tr_if_lt (tgt := 34) dX0_aimAt_10 (by decide) (fun h1 => ?_) (fun h1 => ?_)
    · exact absurd h1 (nI_pos (by omega))
    · refine tr_aload_n dX0_aimAt_13 rfl ?_
      refine tr_getR dX0_aimAt_14 fg_RX0_18 (by first | assumption | decide) (by first | assumption | rfl) rfl (by omega) ?_
      refine tr_iload_n dX0_aimAt_17 rfl ?_
      refine tr_iload_n dX0_aimAt_18 rfl ?_
      refine tr_bipush (v := nI 10) dX0_aimAt_19 (by decide) ?_
      first | with_reducible refine tr_iremN dX0_aimAt_21 (by omega) (by omega) (by omega) ?_ | refine tr_irem dX0_aimAt_21 (by decide) ?_
      refine tr_iast dX0_aimAt_22 (by first | assumption | decide) (by first | assumption | rfl) rfl (by omega) (by omega) ?_
      -- at 23: .iload_n 2
      have hr1 := hr'.setGoal (i := m) (v := r % 10) (by omega) hw1
      have hs1 : same μ (sI μ (a + 3) (upd (μ.1 (a + 3)) m (nI (r % 10)))) [a, a + 3] := (same.rf μ _).put _ (by simp)
      generalize sI μ (a + 3) (upd (μ.1 (a + 3)) m (nI (r % 10))) = μ1 at hr1 hs1 ⊢
      refine tr_iload_n dX0_aimAt_23 rfl ?_
      refine tr_bipush (v := nI 10) dX0_aimAt_24 (by decide) ?_
      first | with_reducible refine tr_idivN dX0_aimAt_26 (by omega) (by omega) (by omega) ?_ | refine tr_idiv dX0_aimAt_26 (by decide) ?_
      refine tr_istore_n_2 dX0_aimAt_27 (by decide) rfl ?_
      refine tr_iincm_3 dX0_aimAt_28 (by decide) rfl ?_
      refine tr_goto (tgt := 9) dX0_aimAt_31 (by decide) ?_
      -- at 9: .iload_n 3
      exact tw_mono (l_aimAt hB' m (r / 10) (nu c (11 + m) (r % 10)) μ1 (by rw [nu_n _ _ (by omega)]; omega) (by omega) (hw.goal (by omega) (by omega)) hr1) (fun r μ' ⟨q1, q2, q3⟩ => ⟨q1, hs1.trans q2, q3⟩)
theorem c_aimAt {r : Nat} (hrr : r < 2 ^ 31) (hB : isB a) (hr : BR μ a c) (hw : wfc c) : cp X (d + 1) kX0_aimAt [.ref a, .int (nI r)] μ (qv (fun μ' => same μ μ' [a, a + 3] ∧ BR μ' a (aimM (c 18) r c))) := by
  have hB' := hB
  have hr' := hr
  obtain ⟨⟨i0, i1, i2, i3, i4⟩, s0, s1, s2, s3, s4⟩ := hB
  obtain ⟨r4, r5, r6, r7, r8, rr⟩ := hr
  refine cp_of ok_X0_aimAt (L := [.ref a, .int (nI r), .float 0, .float 0]) rfl ?_
  refine tr_iload_n dX0_aimAt_0 rfl ?_
  refine tr_istore_n_2 dX0_aimAt_1 (by decide) rfl ?_
  refine tr_aload_n dX0_aimAt_2 rfl ?_
  refine tr_getI dX0_aimAt_3 fg_RX0_24 (by first | assumption | decide) (by first | assumption | rfl) rfl (by first | assumption | rfl) ?_
  refine tr_iconst (v := nI 1) dX0_aimAt_6 (by decide) ?_
  -- at 7: .isub
  refine tr_isub dX0_aimAt_7 ?_
  refine tr_istore_n_3 dX0_aimAt_8 (by decide) rfl ?_
  -- at 9: .iload_n 3
  exact l_aimAt hB' (c 18) r c μ (Nat.le_refl _) hrr hw hr'
theorem l_ticks (hB : isB a) {N : Nat} (hN : N < 1000) : ∀ (m t : Nat) (c : NF) (μ : am_M), t + m = N → wfc c → BR μ a c → tw X (d + 3) kX0_ticksTillTold (qi (fun v μ' => same μ μ' [a, a + 2] ∧ v = nI (t + tM m c) ∧ BR μ' a (goI (tM m c) c))) 20 [.ref a, .int (nI N - 1), .int (nI t)] [] μ
  | m, t, c, μ, him, hw, hr => by
    have hB' := hB
    obtain ⟨⟨i0, i1, i2, i3, i4⟩, s0, s1, s2, s3, s4⟩ := hB
    have hcmp : nI N - 1 < nI t ↔ N ≤ t := by
      rw [Int32.lt_iff_toInt_lt, show (1 : Int32) = nI 1 from rfl, pk_sub_toInt (by omega) (by omega), nI_toInt (by omega)]
      omega
    refine tr_iload_n dX0_ticksTillTold_20 rfl ?_
    refine tr_iload_n dX0_ticksTillTold_21 rfl ?_
    -- at 22: .if_icmp .gt 20
    refine tr_icmp_gt (tgt := 42) dX0_ticksTillTold_22 (by decide) (fun h1 => ?_) (fun h1 => ?_)
    · obtain rfl : m = 0 := by have := hcmp.mp h1; omega
      refine tr_iload_n dX0_ticksTillTold_42 rfl ?_
      -- at 43: .ireturn
      refine tr_iret dX0_ticksTillTold_43 (by first | exact trivial | rfl) ⟨same.rf μ _, rfl, hr⟩
    · have h1' : ¬ N ≤ t := fun q => h1 (hcmp.mpr q)
      obtain ⟨m', rfl⟩ : ∃ m', m = m' + 1 := ⟨m - 1, by omega⟩
      refine tr_aload_n dX0_ticksTillTold_25 rfl ?_
      -- at 26: .invokevirtual 75
      refine tr_Vi (As := []) dX0_ticksTillTold_26 fm_RX0_75 rfl rfl (by first | assumption | decide) (by first | assumption | rfl) (Nat.le_of_ble_eq_true rfl) (c_isTold (d := d + 2) hB' hr hw) (fun v μ1 ⟨e1, e2⟩ => ?_)
      subst e1; subst e2
      refine tr_ifb1 (tgt := 42) dX0_ticksTillTold_29 (by decide) (fun h2 => ?_) (fun h2 => ?_)
      · refine tr_iload_n dX0_ticksTillTold_42 rfl ?_
        -- at 43: .ireturn
        refine tr_iret dX0_ticksTillTold_43 (by first | exact trivial | rfl) ⟨same.rf μ1 _, by rw [tM, if_pos h2]; rfl, by rw [tM, if_pos h2]; exact hr⟩
      · refine tr_aload_n dX0_ticksTillTold_32 rfl ?_
        -- at 33: .invokevirtual 64
        refine tr_Vv (As := []) dX0_ticksTillTold_33 fm_RX0_64 rfl rfl (by first | assumption | decide) (by first | assumption | rfl) (Nat.le_of_ble_eq_true rfl) (c_step (d := d) hB' hr hw) (fun μ2 ⟨e1, e2⟩ => ?_)
        first | with_reducible refine tr_iincN_2 dX0_ticksTillTold_36 (by decide) rfl ?_ | refine tr_iinc_2 dX0_ticksTillTold_36 (by decide) rfl ?_
        refine tr_goto (tgt := 20) dX0_ticksTillTold_39 (by decide) ?_
        -- at 20: .iload_n 2
        have e : tM (m' + 1) c = 1 + tM m' (goC c) := by rw [tM, if_neg (by rw [h2]; decide)]
        rw [e]
        exact tw_mono (l_ticks hB' hN m' (t + 1) (goC c) μ2 (by omega) (goC_wf hw) e2) (fun r μ' ⟨v, q1, q2, q3, q4⟩ => ⟨v, q1, e1.trans q2, by rw [q3]; congr 1; omega, by rw [Nat.add_comm]; exact q4⟩)
theorem c_ticks {N : Nat} (hN : N < 1000) (hB : isB a) (hr : BR μ a c) (hw : wfc c) : cp X (d + 4) kX0_ticksTillTold [.ref a, .int (nI N - 1)] μ (qi (fun v μ' => same μ μ' [a, a + 2] ∧ v = nI (tM N c) ∧ (tM N c < N → BR μ' a (goI (tM N c) c)) ∧ ∃ c', wfc c' ∧ BR μ' a c' ∧ c' 18 = c 18)) := by
  have hB' := hB
  have hr' := hr
  obtain ⟨⟨i0, i1, i2, i3, i4⟩, s0, s1, s2, s3, s4⟩ := hB
  obtain ⟨r4, r5, r6, r7, r8, rr⟩ := hr
  have h128 : rtM c (c 18) < 128 := Nat.lt_of_lt_of_le (rtM_lt c _) (Nat.pow_le_pow_right (by omega) hw.1)
  refine cp_of ok_X0_ticksTillTold (L := [.ref a, .int (nI N - 1), .float 0]) rfl ?_
  refine tr_aload_n dX0_ticksTillTold_0 rfl ?_
  refine tr_getI dX0_ticksTillTold_1 fg_RX0_43 (by first | assumption | decide) (by first | assumption | rfl) rfl (by first | assumption | rfl) ?_
  refine tr_aload_n dX0_ticksTillTold_4 rfl ?_
  -- at 5: .invokevirtual 71
  refine tr_Vi (As := []) dX0_ticksTillTold_5 fm_RX0_71 rfl rfl (by first | assumption | decide) (by first | assumption | rfl) (Nat.le_of_ble_eq_true rfl) (c_rightOnes (d := d + 2) hB' hr' hw) (fun v μ1 ⟨e1, e2⟩ => ?_)
  subst e1; subst e2
  refine tr_iconst (v := -1) dX0_ticksTillTold_8 (by decide) ?_
  refine tr_ixor dX0_ticksTillTold_9 ?_
  refine tr_iand dX0_ticksTillTold_10 ?_
  -- at 11: .ifCond .eq 7
  refine tr_if_eq (tgt := 18) dX0_ticksTillTold_11 (by decide) (fun h1 => ?_) (fun h1 => ?_)
  · have h1' := (jam_right _ hw.jam0 _ h128).mp h1
    refine tr_iconst (v := nI 0) dX0_ticksTillTold_18 (by decide) ?_
    refine tr_istore_n_2 dX0_ticksTillTold_19 (by decide) rfl ?_
    -- at 20: .iload_n 2
    exact tw_mono (l_ticks hB' hN N 0 c μ1 (by omega) hw hr') (fun r μ' ⟨v, q1, q2, q3, q4⟩ => ⟨v, q1, q2, by rw [q3, Nat.zero_add], fun _ => q4, _, goI_wf _ _ hw, q4, goI_keep _ _ hw _ (by omega) (by omega) (by omega)⟩)
  · have h1' : ¬ c 3 &&& rtM c (c 18) = c 3 := fun q => h1 ((jam_right _ hw.jam0 _ h128).mpr q)
    obtain ⟨i, f1, f2, f3⟩ := jam_some hw h1'
    have e : tM N c = N := tM_stuck N c i hw f1 f2 f3
    refine tr_iload_n dX0_ticksTillTold_14 rfl ?_
    refine tr_iconst (v := nI 1) dX0_ticksTillTold_15 (by decide) ?_
    first | with_reducible refine tr_iaddN dX0_ticksTillTold_16 ?_ | refine tr_iadd dX0_ticksTillTold_16 ?_
    -- at 17: .ireturn
    refine tr_iret dX0_ticksTillTold_17 (by first | exact trivial | rfl) ⟨same.rf μ1 _, by rw [e, show nI 1 = (1 : Int32) from rfl, Int32.sub_add_cancel], fun q => by omega, c, hw, hr', rfl⟩
theorem c_isOf {kd o : Nat} (hk : kd < 6) (ho : o < 6) : cp X (d + 1) kX7_isOf [.int (nI kd), .int (nI o)] μ (qi (fun v μ' => μ' = μ ∧ v = nI (bN (isM kd o)))) := by
  refine cp_of ok_X7_isOf (L := [.int (nI kd), .int (nI o)]) rfl ?_
  refine tr_iload_n dX7_isOf_0 rfl ?_
  refine tr_iload_n dX7_isOf_1 rfl ?_
  -- at 2: .if_icmp .eq 27
  refine tr_eqN (tgt := 29) dX7_isOf_2 (by decide) (by omega) (by omega) (fun h1 => ?_) (fun h1 => ?_)
  · refine tr_iconst (v := nI 1) dX7_isOf_29 (by decide) ?_
    refine tr_goto (tgt := 34) dX7_isOf_30 (by decide) ?_
    -- at 34: .ireturn
    refine tr_iret dX7_isOf_34 (by first | exact trivial | rfl) ⟨rfl, by simp [isM, h1, bN]⟩
  · refine tr_iload_n dX7_isOf_5 rfl ?_
    -- at 6: .ifCond .eq 23
    refine tr_if0N (tgt := 29) dX7_isOf_6 (by decide) (by omega) (fun h2 => ?_) (fun h2 => ?_)
    · refine tr_iconst (v := nI 1) dX7_isOf_29 (by decide) ?_
      refine tr_goto (tgt := 34) dX7_isOf_30 (by decide) ?_
      -- at 34: .ireturn
      refine tr_iret dX7_isOf_34 (by first | exact trivial | rfl) ⟨rfl, by simp [isM, h2, bN]⟩
    · refine tr_iload_n dX7_isOf_9 rfl ?_
      refine tr_iconst (v := nI 4) dX7_isOf_10 (by decide) ?_
      -- at 11: .if_icmp .ne 8
      refine tr_neN (tgt := 19) dX7_isOf_11 (by decide) (by omega) (by omega) (fun h3 => ?_) (fun h3 => ?_)
      · refine tr_iload_n dX7_isOf_19 rfl ?_
        refine tr_iconst (v := nI 5) dX7_isOf_20 (by decide) ?_
        -- at 21: .if_icmp .ne 12
        refine tr_neN (tgt := 33) dX7_isOf_21 (by decide) (by omega) (by omega) (fun h4 => ?_) (fun h4 => ?_)
        · refine tr_iconst (v := nI 0) dX7_isOf_33 (by decide) ?_
          -- at 34: .ireturn
          refine tr_iret dX7_isOf_34 (by first | exact trivial | rfl) ⟨rfl, by simp [isM, h1, h2, h3, h4, bN]⟩
        · refine tr_iload_n dX7_isOf_24 rfl ?_
          refine tr_iconst (v := nI 2) dX7_isOf_25 (by decide) ?_
          -- at 26: .if_icmp .ne 7
          refine tr_neN (tgt := 33) dX7_isOf_26 (by decide) (by omega) (by omega) (fun h5 => ?_) (fun h5 => ?_)
          · refine tr_iconst (v := nI 0) dX7_isOf_33 (by decide) ?_
            -- at 34: .ireturn
            refine tr_iret dX7_isOf_34 (by first | exact trivial | rfl) ⟨rfl, by simp [isM, h1, h2, h3, h5, bN]⟩
          · refine tr_iconst (v := nI 1) dX7_isOf_29 (by decide) ?_
            refine tr_goto (tgt := 34) dX7_isOf_30 (by decide) ?_
            -- at 34: .ireturn
            refine tr_iret dX7_isOf_34 (by first | exact trivial | rfl) ⟨rfl, by simp [isM, h4, h5, bN]⟩
      · refine tr_iload_n dX7_isOf_14 rfl ?_
        refine tr_iconst (v := nI 1) dX7_isOf_15 (by decide) ?_
        -- at 16: .if_icmp .eq 13
        refine tr_eqN (tgt := 29) dX7_isOf_16 (by decide) (by omega) (by omega) (fun h4 => ?_) (fun h4 => ?_)
        · refine tr_iconst (v := nI 1) dX7_isOf_29 (by decide) ?_
          refine tr_goto (tgt := 34) dX7_isOf_30 (by decide) ?_
          -- at 34: .ireturn
          refine tr_iret dX7_isOf_34 (by first | exact trivial | rfl) ⟨rfl, by simp [isM, h3, h4, bN]⟩
        · refine tr_iload_n dX7_isOf_19 rfl ?_
          refine tr_iconst (v := nI 5) dX7_isOf_20 (by decide) ?_
          -- at 21: .if_icmp .ne 12
          refine tr_neN (tgt := 33) dX7_isOf_21 (by decide) (by omega) (by omega) (fun h5 => ?_) (fun h5 => ?_)
          · refine tr_iconst (v := nI 0) dX7_isOf_33 (by decide) ?_
            -- at 34: .ireturn
            refine tr_iret dX7_isOf_34 (by first | exact trivial | rfl) ⟨rfl, by simp [isM, h1, h2, h4, h5, bN]⟩
          · omega
theorem l_drumsOf {o : Nat} (ho : o < 6) (hB : isB a) (hr : BR μ a c) (hw : wfc c) : ∀ (m i : Nat), i + m = c 18 → tw X (d + 1) kX0_drumsOf (qi (fun v μ' => μ' = μ ∧ v = nI (cntM c o (c 18)))) 4 [.ref a, .int (nI o), .int (nI (cntM c o i)), .int (nI i)] [] μ
  | m, i, him => by
    have hB' := hB
    have hr' := hr
    obtain ⟨⟨i0, i1, i2, i3, i4⟩, s0, s1, s2, s3, s4⟩ := hB
    obtain ⟨r4, r5, r6, r7, r8, rr⟩ := hr
    have hw1 := hw.1
    refine tr_iload_n dX0_drumsOf_4 rfl ?_
    refine tr_aload_n dX0_drumsOf_5 rfl ?_
    refine tr_getI dX0_drumsOf_6 fg_RX0_24 (by first | assumption | decide) (by first | assumption | rfl) rfl (by first | assumption | rfl) ?_
    -- at 9: .if_icmp .ge 30
    refine tr_geN (tgt := 39) dX0_drumsOf_9 (by decide) (by omega) (by omega) (fun h1 => ?_) (fun h1 => ?_)
    · refine tr_iload_n dX0_drumsOf_39 rfl ?_
      -- at 40: .ireturn
      refine tr_iret dX0_drumsOf_40 (by first | exact trivial | rfl) ⟨rfl, by rw [show i = c 18 by omega]⟩
    · obtain ⟨q1, q2, q3, q4⟩ := rr i h1
      obtain ⟨w1, w2, w3, w4⟩ := hw.2.2.2 i (by omega)
      refine tr_iload_n dX0_drumsOf_12 rfl ?_
      refine tr_aload_n dX0_drumsOf_13 rfl ?_
      refine tr_getR dX0_drumsOf_14 fg_RX0_9 (by first | assumption | decide) (by first | assumption | rfl) rfl (by omega) ?_
      refine tr_iload_n dX0_drumsOf_17 rfl ?_
      refine tr_iald dX0_drumsOf_18 (by first | assumption | decide) (by first | assumption | rfl) rfl (by omega) (by omega) (by first | assumption | rfl) ?_
      refine tr_iload_n dX0_drumsOf_19 rfl ?_
      -- at 20: .invokestatic 67
      refine tr_SNi (As := [_, _]) dX0_drumsOf_20 fm_RX0_67 rfl rfl (Nat.le_of_ble_eq_true rfl) (c_isOf (d := d) w3 ho) (fun v μ1 ⟨e1, e2⟩ => ?_)
      subst μ1; subst v
      refine tr_ifb0 (tgt := 30) dX0_drumsOf_23 (by decide) (fun h2 => ?_) (fun h2 => ?_)
      · refine tr_iconst (v := nI 0) dX0_drumsOf_30 (by decide) ?_
        first | with_reducible refine tr_iaddN dX0_drumsOf_31 ?_ | refine tr_iadd dX0_drumsOf_31 ?_
        refine tr_istore_n_2 dX0_drumsOf_32 (by decide) rfl ?_
        first | with_reducible refine tr_iincN_3 dX0_drumsOf_33 (by decide) rfl ?_ | refine tr_iinc_3 dX0_drumsOf_33 (by decide) rfl ?_
        refine tr_goto (tgt := 4) dX0_drumsOf_36 (by decide) ?_
        -- at 4: .iload_n 3
        have e : cntM c o i + 0 = cntM c o (i + 1) := by rw [cntM, h2]; rfl
        rw [e]
        exact l_drumsOf ho hB' hr' hw (m - 1) (i + 1) (by omega)
      · refine tr_iconst (v := nI 1) dX0_drumsOf_26 (by decide) ?_
        refine tr_goto (tgt := 31) dX0_drumsOf_27 (by decide) ?_
        first | with_reducible refine tr_iaddN dX0_drumsOf_31 ?_ | refine tr_iadd dX0_drumsOf_31 ?_
        refine tr_istore_n_2 dX0_drumsOf_32 (by decide) rfl ?_
        first | with_reducible refine tr_iincN_3 dX0_drumsOf_33 (by decide) rfl ?_ | refine tr_iinc_3 dX0_drumsOf_33 (by decide) rfl ?_
        refine tr_goto (tgt := 4) dX0_drumsOf_36 (by decide) ?_
        -- at 4: .iload_n 3
        have e : cntM c o i + 1 = cntM c o (i + 1) := by rw [cntM, h2]; rfl
        rw [e]
        exact l_drumsOf ho hB' hr' hw (m - 1) (i + 1) (by omega)
  termination_by m => m
theorem c_drumsOf {o : Nat} (ho : o < 6) (hB : isB a) (hr : BR μ a c) (hw : wfc c) : cp X (d + 2) kX0_drumsOf [.ref a, .int (nI o)] μ (qi (fun v μ' => μ' = μ ∧ v = nI (cntM c o (c 18)))) := by
  refine cp_of ok_X0_drumsOf (L := [.ref a, .int (nI o), .float 0, .float 0]) rfl ?_
  refine tr_iconst (v := nI 0) dX0_drumsOf_0 (by decide) ?_
  refine tr_istore_n_2 dX0_drumsOf_1 (by decide) rfl ?_
  refine tr_iconst (v := nI 0) dX0_drumsOf_2 (by decide) ?_
  refine tr_istore_n_3 dX0_drumsOf_3 (by decide) rfl ?_
  -- at 4: .iload_n 3
  exact l_drumsOf ho hB hr hw (c 18) 0 (by omega)
end B3
