-- ===== Board: afterTurn, step, stepOn =====
section B2
variable {X : Nat × (Nat → Int32)} {d : Nat} {μ : am_M} {a i : Nat} {c : NF}
theorem c_afterTurn (hB : isB a) (hr : BR μ a c) (hw : wfc c) (hi : i < c 18) : cp X (d + 2) kX0_afterTurn [.ref a, .int (nI i)] μ (qi (fun v μ' => μ' = μ ∧ v = nI (nxM c i))) := by
  have hsk := fun sh (hsh : sh < 10) => c_skippedFrom (X := X) (d := d) (sh := sh) hsh hB hr hw hi
  obtain ⟨⟨i0, i1, i2, i3, i4⟩, s0, s1, s2, s3, s4⟩ := hB
  obtain ⟨r4, r5, r6, r7, r8, rr⟩ := hr
  have hw1 := hw.1
  obtain ⟨q1, q2, q3, q4⟩ := rr i hi
  obtain ⟨w1, w2, w3, w4⟩ := hw.2.2.2 i (by omega)
  refine cp_of ok_X0_afterTurn (L := [.ref a, .int (nI i), .float 0]) rfl ?_
  refine tr_aload_n dX0_afterTurn_0 rfl ?_
  refine tr_getR dX0_afterTurn_1 fg_RX0_9 (by first | assumption | decide) (by first | assumption | rfl) rfl (by omega) ?_
  refine tr_iload_n dX0_afterTurn_4 rfl ?_
  refine tr_iald dX0_afterTurn_5 (by first | assumption | decide) (by first | assumption | rfl) rfl (by omega) (by omega) (by first | assumption | rfl) ?_
  -- at 6: .tableswitch 90 2 5 #[45, 30, 90, 57]
  have hk : c (19 + i) = 0 ∨ c (19 + i) = 1 ∨ c (19 + i) = 2 ∨ c (19 + i) = 3 ∨ c (19 + i) = 4 ∨ c (19 + i) = 5 := by omega
  rcases hk with hk | hk | hk | hk | hk | hk <;> refine tr_v (congrArg nI hk) ?_
  · refine tr_tableOut (tgt := 96) dX0_afterTurn_6 (by decide) (by decide) ?_
    refine tr_aload_n dX0_afterTurn_96 rfl ?_
    refine tr_getR dX0_afterTurn_97 fg_RX0_15 (by first | assumption | decide) (by first | assumption | rfl) rfl (by omega) ?_
    refine tr_iload_n dX0_afterTurn_100 rfl ?_
    refine tr_iald dX0_afterTurn_101 (by first | assumption | decide) (by first | assumption | rfl) rfl (by omega) (by omega) (by first | assumption | rfl) ?_
    refine tr_iconst (v := nI 1) dX0_afterTurn_102 (by decide) ?_
    first | with_reducible refine tr_iaddN dX0_afterTurn_103 ?_ | refine tr_iadd dX0_afterTurn_103 ?_
    refine tr_bipush (v := nI 10) dX0_afterTurn_104 (by decide) ?_
    first | with_reducible refine tr_iremN dX0_afterTurn_106 (by omega) (by omega) (by omega) ?_ | refine tr_irem dX0_afterTurn_106 (by decide) ?_
    -- at 107: .ireturn
    refine tr_iret dX0_afterTurn_107 (by first | exact trivial | rfl) ⟨rfl, by simp [nxM, trnM, hk]⟩
  · refine tr_tableOut (tgt := 96) dX0_afterTurn_6 (by decide) (by decide) ?_
    refine tr_aload_n dX0_afterTurn_96 rfl ?_
    refine tr_getR dX0_afterTurn_97 fg_RX0_15 (by first | assumption | decide) (by first | assumption | rfl) rfl (by omega) ?_
    refine tr_iload_n dX0_afterTurn_100 rfl ?_
    refine tr_iald dX0_afterTurn_101 (by first | assumption | decide) (by first | assumption | rfl) rfl (by omega) (by omega) (by first | assumption | rfl) ?_
    refine tr_iconst (v := nI 1) dX0_afterTurn_102 (by decide) ?_
    first | with_reducible refine tr_iaddN dX0_afterTurn_103 ?_ | refine tr_iadd dX0_afterTurn_103 ?_
    refine tr_bipush (v := nI 10) dX0_afterTurn_104 (by decide) ?_
    first | with_reducible refine tr_iremN dX0_afterTurn_106 (by omega) (by omega) (by omega) ?_ | refine tr_irem dX0_afterTurn_106 (by decide) ?_
    -- at 107: .ireturn
    refine tr_iret dX0_afterTurn_107 (by first | exact trivial | rfl) ⟨rfl, by simp [nxM, trnM, hk]⟩
  · refine tr_tableIn (off := 45) (tgt := 51) dX0_afterTurn_6 (by decide) (by decide) (by decide) (by decide) ?_
    refine tr_aload_n dX0_afterTurn_51 rfl ?_
    refine tr_aload_n dX0_afterTurn_52 rfl ?_
    refine tr_getR dX0_afterTurn_53 fg_RX0_15 (by first | assumption | decide) (by first | assumption | rfl) rfl (by omega) ?_
    refine tr_iload_n dX0_afterTurn_56 rfl ?_
    refine tr_iald dX0_afterTurn_57 (by first | assumption | decide) (by first | assumption | rfl) rfl (by omega) (by omega) (by first | assumption | rfl) ?_
    refine tr_iload_n dX0_afterTurn_58 rfl ?_
    -- at 59: .invokevirtual 50
    refine tr_Vi (As := [_, _]) dX0_afterTurn_59 fm_RX0_50 rfl rfl (by first | assumption | decide) (by first | assumption | rfl) (Nat.le_of_ble_eq_true rfl) (hsk _ w1) (fun v μ1 ⟨e1, e2⟩ => ?_)
    subst e1; subst e2
    refine tr_iret dX0_afterTurn_62 (by first | exact trivial | rfl) ⟨rfl, by simp [nxM, trnM, hk]⟩
  · refine tr_tableIn (off := 30) (tgt := 36) dX0_afterTurn_6 (by decide) (by decide) (by decide) (by decide) ?_
    refine tr_aload_n dX0_afterTurn_36 rfl ?_
    refine tr_getR dX0_afterTurn_37 fg_RX0_15 (by first | assumption | decide) (by first | assumption | rfl) rfl (by omega) ?_
    refine tr_iload_n dX0_afterTurn_40 rfl ?_
    refine tr_iald dX0_afterTurn_41 (by first | assumption | decide) (by first | assumption | rfl) rfl (by omega) (by omega) (by first | assumption | rfl) ?_
    refine tr_bipush (v := nI 10) dX0_afterTurn_42 (by decide) ?_
    first | with_reducible refine tr_iaddN dX0_afterTurn_44 ?_ | refine tr_iadd dX0_afterTurn_44 ?_
    refine tr_iconst (v := nI 1) dX0_afterTurn_45 (by decide) ?_
    first | with_reducible refine tr_isubN dX0_afterTurn_46 (by omega) ?_ | refine tr_isub dX0_afterTurn_46 ?_
    refine tr_bipush (v := nI 10) dX0_afterTurn_47 (by decide) ?_
    first | with_reducible refine tr_iremN dX0_afterTurn_49 (by omega) (by omega) (by omega) ?_ | refine tr_irem dX0_afterTurn_49 (by decide) ?_
    -- at 50: .ireturn
    refine tr_iret dX0_afterTurn_50 (by first | exact trivial | rfl) ⟨rfl, by simp [nxM, trnM, hk]⟩
  · refine tr_tableIn (off := 90) (tgt := 96) dX0_afterTurn_6 (by decide) (by decide) (by decide) (by decide) ?_
    refine tr_aload_n dX0_afterTurn_96 rfl ?_
    refine tr_getR dX0_afterTurn_97 fg_RX0_15 (by first | assumption | decide) (by first | assumption | rfl) rfl (by omega) ?_
    refine tr_iload_n dX0_afterTurn_100 rfl ?_
    refine tr_iald dX0_afterTurn_101 (by first | assumption | decide) (by first | assumption | rfl) rfl (by omega) (by omega) (by first | assumption | rfl) ?_
    refine tr_iconst (v := nI 1) dX0_afterTurn_102 (by decide) ?_
    first | with_reducible refine tr_iaddN dX0_afterTurn_103 ?_ | refine tr_iadd dX0_afterTurn_103 ?_
    refine tr_bipush (v := nI 10) dX0_afterTurn_104 (by decide) ?_
    first | with_reducible refine tr_iremN dX0_afterTurn_106 (by omega) (by omega) (by omega) ?_ | refine tr_irem dX0_afterTurn_106 (by decide) ?_
    -- at 107: .ireturn
    refine tr_iret dX0_afterTurn_107 (by first | exact trivial | rfl) ⟨rfl, by simp [nxM, trnM, hk]⟩
  · refine tr_tableIn (off := 57) (tgt := 63) dX0_afterTurn_6 (by decide) (by decide) (by decide) (by decide) ?_
    refine tr_aload_n dX0_afterTurn_63 rfl ?_
    refine tr_aload_n dX0_afterTurn_64 rfl ?_
    refine tr_getR dX0_afterTurn_65 fg_RX0_15 (by first | assumption | decide) (by first | assumption | rfl) rfl (by omega) ?_
    refine tr_iload_n dX0_afterTurn_68 rfl ?_
    refine tr_iald dX0_afterTurn_69 (by first | assumption | decide) (by first | assumption | rfl) rfl (by omega) (by omega) (by first | assumption | rfl) ?_
    refine tr_iload_n dX0_afterTurn_70 rfl ?_
    -- at 71: .invokevirtual 50
    refine tr_Vi (As := [_, _]) dX0_afterTurn_71 fm_RX0_50 rfl rfl (by first | assumption | decide) (by first | assumption | rfl) (Nat.le_of_ble_eq_true rfl) (hsk _ w1) (fun v μ1 ⟨e1, e2⟩ => ?_)
    subst e1; subst e2
    have hlt := skM_lt (c (4 + i)) (c (11 + i)) (c (26 + i))
    refine tr_istore_n_2 dX0_afterTurn_74 (by decide) rfl ?_
    refine tr_iload_n dX0_afterTurn_75 rfl ?_
    refine tr_aload_n dX0_afterTurn_76 rfl ?_
    refine tr_getR dX0_afterTurn_77 fg_RX0_18 (by first | assumption | decide) (by first | assumption | rfl) rfl (by omega) ?_
    refine tr_iload_n dX0_afterTurn_80 rfl ?_
    refine tr_iald dX0_afterTurn_81 (by first | assumption | decide) (by first | assumption | rfl) rfl (by omega) (by omega) (by first | assumption | rfl) ?_
    -- at 82: .if_icmp .ne 7
    refine tr_neN (tgt := 89) dX0_afterTurn_82 (by decide) (by omega) (by omega) (fun h1 => ?_) (fun h1 => ?_)
    · refine tr_aload_n dX0_afterTurn_89 rfl ?_
      refine tr_iload_n dX0_afterTurn_90 rfl ?_
      refine tr_iload_n dX0_afterTurn_91 rfl ?_
      -- at 92: .invokevirtual 50
      refine tr_Vi (As := [_, _]) dX0_afterTurn_92 fm_RX0_50 rfl rfl (by first | assumption | decide) (by first | assumption | rfl) (Nat.le_of_ble_eq_true rfl) (hsk _ hlt) (fun v μ1 ⟨e1, e2⟩ => ?_)
      subst e1; subst e2
      refine tr_iret dX0_afterTurn_95 (by first | exact trivial | rfl) ⟨rfl, by simp [nxM, trnM, hk, h1]⟩
    · refine tr_iload_n dX0_afterTurn_85 rfl ?_
      refine tr_goto (tgt := 95) dX0_afterTurn_86 (by decide) ?_
      -- at 95: .ireturn
      refine tr_iret dX0_afterTurn_95 (by first | exact trivial | rfl) ⟨rfl, by simp [nxM, trnM, hk, h1]⟩
theorem l_step (hB : isB a) : ∀ (m i n : Nat) (c : NF) (t0 : Nat) (μ : am_M), i + m = c 18 → wfc c → n ≤ c 0 → BR μ a (nu c 2 (t0 + n)) → tw X (d + 2) kX0_step (qv (fun μ' => same μ μ' [a, a + 2] ∧ BR μ' a (nu (nu (goM m i n c).1 1 (c 1 + 1)) 2 (t0 + (goM m i n c).2)))) 7 [.ref a, .int (nI (c 0 - n)), .int (nI i)] [] μ
  | m, i, n, c, t0, μ, him, hw, hn, hr => by
    have hex : ∀ (μ : am_M), BR μ a (nu c 2 (t0 + n)) → (goM m i n c) = (c, n) → tw X (d + 2) kX0_step (qv (fun μ' => same μ μ' [a, a + 2] ∧ BR μ' a (nu (nu (goM m i n c).1 1 (c 1 + 1)) 2 (t0 + (goM m i n c).2)))) 65 [.ref a, .int (nI (c 0 - n)), .int (nI i)] [] μ := by
      intro μ hr eg
      have hr' := hr
      obtain ⟨⟨i0, i1, i2, i3, i4⟩, s0, s1, s2, s3, s4⟩ := hB
      obtain ⟨r4, r5, r6, r7, r8, rr⟩ := hr
      rw [nu_n _ _ (by omega)] at r6
      refine tr_aload_n dX0_step_65 rfl ?_
      refine tr_dup dX0_step_66 rfl ?_
      refine tr_getI dX0_step_67 fg_RX0_37 (by first | assumption | decide) (by first | assumption | rfl) rfl (by first | assumption | rfl) ?_
      refine tr_iconst (v := nI 1) dX0_step_70 (by decide) ?_
      first | with_reducible refine tr_iaddN dX0_step_71 ?_ | refine tr_iadd dX0_step_71 ?_
      refine tr_putI dX0_step_72 fp_RX0_37 (by first | assumption | decide) (by first | assumption | rfl) rfl ?_
      -- at 75: .return_
      refine tr_vret dX0_step_75 (by first | exact trivial | rfl) ⟨(same.rf μ _).put _ (by simp), ?_⟩
      rw [eg]
      refine (hr'.setF6 (v := c 1 + 1)).congr (by rw [nu_n _ _ (by omega), nu_n _ _ (by omega)]; exact hw.1) (fun j hj => ?_)
      by_cases e1 : j = 1
      · subst e1; rw [nu_n _ _ (by omega), nu_s, nu_s]
      · by_cases e2 : j = 2
        · subst e2; rw [nu_s, nu_n _ _ (by omega), nu_s]
        · rw [nu_n _ _ e2, nu_n _ _ e1, nu_n _ _ e1, nu_n _ _ e2]
    have hw1 := hw.1
    have hw0 := hw.2.1
    have hB' := hB
    have hr' := hr
    obtain ⟨⟨i0, i1, i2, i3, i4⟩, s0, s1, s2, s3, s4⟩ := hB
    obtain ⟨r4, r5, r6, r7, r8, rr⟩ := hr
    rw [nu_n _ _ (by omega)] at r4
    refine tr_iload_n dX0_step_7 rfl ?_
    refine tr_aload_n dX0_step_8 rfl ?_
    refine tr_getI dX0_step_9 fg_RX0_24 (by first | assumption | decide) (by first | assumption | rfl) rfl (by first | assumption | rfl) ?_
    -- at 12: .if_icmp .ge 53
    refine tr_geN (tgt := 65) dX0_step_12 (by decide) (by omega) (by omega) (fun h1 => ?_) (fun h1 => ?_)
    · exact hex μ hr' (by rw [show m = 0 by omega]; rfl)
    · refine tr_iload_n dX0_step_15 rfl ?_
      -- at 16: .ifCond .le 49
      have h0 : nI (c 0 - n) ≤ 0 ↔ c 0 - n ≤ 0 := nI_leI (a := c 0 - n) (b := 0) (by omega) (by omega)
      refine tr_if_le (tgt := 65) dX0_step_16 (by decide) (fun h2 => ?_) (fun h2 => ?_)
      · have h2' := h0.mp h2
        obtain ⟨m', rfl⟩ : ∃ m', m = m' + 1 := ⟨m - 1, by omega⟩
        exact hex μ hr' (by rw [goM, if_neg (by omega)])
      · have h2' : ¬ c 0 - n ≤ 0 := fun q => h2 (h0.mpr q)
        obtain ⟨m', rfl⟩ : ∃ m', m = m' + 1 := ⟨m - 1, by omega⟩
        have hwn := hw.nu2 (t0 + n)
        have hin : i < (nu c 2 (t0 + n)) 18 := by rw [nu_n _ _ (by omega)]; exact h1
        refine tr_aload_n dX0_step_19 rfl ?_
        refine tr_iload_n dX0_step_20 rfl ?_
        -- at 21: .invokevirtual 54
        refine tr_Vi (As := [_]) dX0_step_21 fm_RX0_54 rfl rfl (by first | assumption | decide) (by first | assumption | rfl) (Nat.le_of_ble_eq_true rfl) (c_isReady (d := d) hB' hr' hwn hin) (fun v μ1 ⟨e1, e2⟩ => ?_)
        subst e1; subst e2
        rw [rdyM_2]
        have hskip : (rdyM c i && !jmM c i) = false → tw X (d + 2) kX0_step (qv (fun μ' => same μ1 μ' [a, a + 2] ∧ BR μ' a (nu (nu (goM (m' + 1) i n c).1 1 (c 1 + 1)) 2 (t0 + (goM (m' + 1) i n c).2)))) 59 [.ref a, .int (nI (c 0 - n)), .int (nI i)] [] μ1 := by
          intro hf
          first | with_reducible refine tr_iincN_2 dX0_step_59 (by decide) rfl ?_ | refine tr_iinc_2 dX0_step_59 (by decide) rfl ?_
          refine tr_goto (tgt := 7) dX0_step_62 (by decide) ?_
          -- at 7: .iload_n 2
          have e : goM (m' + 1) i n c = goM m' (i + 1) n c := by rw [goM, if_pos (by omega), hf]; rfl
          rw [e]
          exact l_step hB' m' (i + 1) n c t0 μ1 (by omega) hw hn hr'
        refine tr_ifb0 (tgt := 59) dX0_step_24 (by decide) (fun h3 => ?_) (fun h3 => ?_)
        · exact hskip (by rw [h3]; rfl)
        · refine tr_aload_n dX0_step_27 rfl ?_
          refine tr_iload_n dX0_step_28 rfl ?_
          -- at 29: .invokevirtual 57
          refine tr_Vi (As := [_]) dX0_step_29 fm_RX0_57 rfl rfl (by first | assumption | decide) (by first | assumption | rfl) (Nat.le_of_ble_eq_true rfl) (c_isJammed (d := d + 1) hB' hr' hwn hin) (fun v μ2 ⟨e1, e2⟩ => ?_)
          subst e1; subst e2
          rw [jmM_2]
          refine tr_ifb1 (tgt := 59) dX0_step_32 (by decide) (fun h4 => ?_) (fun h4 => ?_)
          · exact hskip (by rw [h3, h4]; rfl)
          · refine tr_aload_n dX0_step_35 rfl ?_
            refine tr_getR dX0_step_36 fg_RX0_15 (by first | assumption | decide) (by first | assumption | rfl) rfl (by omega) ?_
            refine tr_iload_n dX0_step_39 rfl ?_
            refine tr_aload_n dX0_step_40 rfl ?_
            refine tr_iload_n dX0_step_41 rfl ?_
            -- at 42: .invokevirtual 60
            refine tr_Vi (As := [_]) dX0_step_42 fm_RX0_60 rfl rfl (by first | assumption | decide) (by first | assumption | rfl) (Nat.le_of_ble_eq_true rfl) (c_afterTurn (d := d) hB' hr' hwn hin) (fun v μ3 ⟨e1, e2⟩ => ?_)
            subst e1; subst e2
            rw [nxM_2]
            refine tr_iast dX0_step_45 (by first | assumption | decide) (by first | assumption | rfl) rfl (by omega) (by omega) ?_
            have hi7 : i < 7 := by omega
            have hr1 := hr'.setShow (v := nxM c i) hi7 (by rw [nu_n _ _ (by omega)]; exact hw1)
            have hs1 : same μ3 (sI μ3 (a + 2) (upd (μ3.1 (a + 2)) i (nI (nxM c i)))) [a, a + 2] := (same.rf μ3 _).put _ (by simp)
            generalize sI μ3 (a + 2) (upd (μ3.1 (a + 2)) i (nI (nxM c i))) = μ4 at hr1 hs1 ⊢
            have t7 : μ4.1 a 7 = nI (t0 + n) := by
              have := hr1.2.2.2.1
              rw [nu_n _ _ (by omega), nu_s] at this
              exact this
            refine tr_aload_n dX0_step_46 rfl ?_
            refine tr_dup dX0_step_47 rfl ?_
            refine tr_getI dX0_step_48 fg_RX0_40 (by first | assumption | decide) (by first | assumption | rfl) rfl (by first | assumption | rfl) ?_
            refine tr_iconst (v := nI 1) dX0_step_51 (by decide) ?_
            first | with_reducible refine tr_iaddN dX0_step_52 ?_ | refine tr_iadd dX0_step_52 ?_
            refine tr_putI dX0_step_53 fp_RX0_40 (by first | assumption | decide) (by first | assumption | rfl) rfl ?_
            -- at 56: .iinc 1 (-1)
            have hr2 := hr1.setF7 (v := t0 + n + 1)
            have hs2 := hs1.put (a := a) (upd (μ4.1 a) 7 (nI (t0 + n + 1))) (by simp)
            generalize sI μ4 a (upd (μ4.1 a) 7 (nI (t0 + n + 1))) = μ5 at hr2 hs2 ⊢
            refine tr_iincm_1 dX0_step_56 (by decide) rfl ?_
            first | with_reducible refine tr_iincN_2 dX0_step_59 (by decide) rfl ?_ | refine tr_iinc_2 dX0_step_59 (by decide) rfl ?_
            refine tr_goto (tgt := 7) dX0_step_62 (by decide) ?_
            -- at 7: .iload_n 2
            have e : goM (m' + 1) i n c = goM m' (i + 1) (n + 1) (nu c (4 + i) (nxM c i)) := by rw [goM, if_pos (by omega), h3, h4]; rfl
            have hw2 : wfc (nu c (4 + i) (nxM c i)) := hw.show hi7 (trnM_lt _ _ _ _)
            have hl : nI (c 0 - n) - 1 = nI (nu c (4 + i) (nxM c i) 0 - (n + 1)) := by
              rw [nu_n _ _ (by omega), show c 0 - n = (c 0 - (n + 1)) + 1 by omega, nI_pred]
            rw [hl, e]
            have key := l_step hB' m' (i + 1) (n + 1) (nu c (4 + i) (nxM c i)) t0 μ5 (by rw [nu_n _ _ (by omega)]; omega) hw2 (by rw [nu_n _ _ (by omega)]; omega) (hr2.congr (by rw [nu_n _ _ (by omega), nu_n _ _ (by omega), nu_n _ _ (by omega)]; omega) (fun j hj => by
              by_cases e2 : j = 2
              · subst e2; rw [nu_s, nu_s]; omega
              · rw [nu_n _ _ e2, nu_n _ _ e2]
                by_cases e4 : j = 4 + i
                · subst e4; rw [nu_s, nu_s]
                · rw [nu_n _ _ e4, nu_n _ _ e4, nu_n _ _ e2]))
            rw [show nu c (4 + i) (nxM c i) 1 = c 1 from nu_n _ _ (by omega)] at key
            exact tw_mono key (fun r μ' ⟨q1, q2, q3⟩ => ⟨q1, hs2.trans q2, q3⟩)
theorem c_step (hB : isB a) (hr : BR μ a c) (hw : wfc c) : cp X (d + 3) kX0_step [.ref a] μ (qv (fun μ' => same μ μ' [a, a + 2] ∧ BR μ' a (goC c))) := by
  have hB' := hB
  have hr' := hr
  obtain ⟨⟨i0, i1, i2, i3, i4⟩, s0, s1, s2, s3, s4⟩ := hB
  obtain ⟨r4, r5, r6, r7, r8, rr⟩ := hr
  refine cp_of ok_X0_step (L := [.ref a, .float 0, .float 0]) rfl ?_
  refine tr_aload_n dX0_step_0 rfl ?_
  refine tr_getI dX0_step_1 fg_RX0_34 (by first | assumption | decide) (by first | assumption | rfl) rfl (by first | assumption | rfl) ?_
  refine tr_istore_n_1 dX0_step_4 (by decide) rfl ?_
  refine tr_iconst (v := nI 0) dX0_step_5 (by decide) ?_
  refine tr_istore_n_2 dX0_step_6 (by decide) rfl ?_
  -- at 7: .iload_n 2
  exact l_step hB' (c 18) 0 0 c (c 2) μ (by omega) hw (by omega) (hr'.congr hw.1 (fun j hj => by
    by_cases e2 : j = 2
    · subst e2; rw [nu_s]; rfl
    · rw [nu_n _ _ e2]))
end B2
