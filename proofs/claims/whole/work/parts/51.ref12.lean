-- ===== the reference: duel, lots =====
theorem mnN_99 (g : Nat → Nat) (h : ∀ k, g k ≤ 61) : ∀ n, mnN 99 g (n + 1) = mnN 61 g (n + 1)
  | 0 => by
    have := h 0
    rw [mnN, mnN]
    show min 99 (g 0) = min 61 (g 0)
    omega
  | n + 1 => by rw [mnN, mnN_99 g h n, ← mnN]
def mx1 (g : Nat → Nat) : Nat → Int32
  | 0 => -1
  | k + 1 => nI (mxN g (k + 1))
theorem nu_nu (c : NF) (j v : Nat) : nu (nu c j v) j (c j) = c := by
  funext q
  unfold nu
  by_cases e : q = j
  · rw [if_pos e, e]
  · rw [if_neg e, if_neg e]
section M12
variable {X : Nat × (Nat → Int32)} {d : Nat} {μ : am_M} {σ : SG} {a b i j n p : Nat} {c : NF} {r x y z w : Int32} {f : Nat → Int32}
theorem r_late (hA : isA a) (ha : a ≠ 107) (hr : MR μ a c) (hw : wfc c) : cp X (d + 6) kX8_late [.ref 99, .ref a] μ (qi (fun v μ' => same μ μ' [107] ∧ v = nI (tM 61 c))) := by
  have hA' := hA
  obtain ⟨i0, s0⟩ := hA
  refine cp_of ok_X8_late (L := [.ref 99, .ref a, .float 0]) rfl ?_
  refine tr_aload_n dX8_late_0 rfl ?_
  refine tr_aload_n dX8_late_1 rfl ?_
  refine tr_getR dX8_late_2 fg_RX8_32 (by first | assumption | decide) (by first | assumption | rfl) rfl (by omega) ?_
  -- at 5: .invokestatic 163
  refine tr_Sv (As := [_, _]) dX8_late_5 fm_RX8_163 rfl rfl (Nat.le_of_ble_eq_true rfl) (r_copies hA' isA_107 ha hr) (fun μ1 ⟨e1, e2⟩ => ?_)
  refine tr_aload_n dX8_late_8 rfl ?_
  refine tr_getR dX8_late_9 fg_RX8_32 (by first | assumption | decide) (by first | assumption | rfl) rfl (by omega) ?_
  -- at 12: .invokestatic 174
  refine tr_Si (As := [_]) dX8_late_12 fm_RX8_174 rfl rfl (Nat.le_of_ble_eq_true rfl) (r_told isA_107 e2 hw) (fun v μ2 ⟨u1, u2, u3⟩ => ?_)
  subst v
  have hle := tM_le 61 c
  generalize tM 61 c = t at *
  by_cases ht : t < 61
  · rw [if_pos ht]
    refine tr_istore_n_2 dX8_late_15 (by decide) (by first | rfl | assumption) ?_
    refine tr_iload_n dX8_late_16 rfl ?_
    refine tr_bipush (v := -9) dX8_late_17 (by decide) ?_
    -- at 19: .if_icmp .ne 8
    refine tr_icmp_ne (tgt := 27) dX8_late_19 (by decide) (fun h4 => ?_) (fun h4 => ?_)
    · refine tr_iload_n dX8_late_27 rfl ?_
      -- at 28: .ireturn
      refine tr_iret dX8_late_28 (by first | exact trivial | rfl) ⟨e1.trans u1, rfl⟩
    · exact absurd h4 (nI_m9 (by omega))
  · rw [if_neg ht]
    refine tr_istore_n_2 dX8_late_15 (by decide) (by first | rfl | assumption) ?_
    refine tr_iload_n dX8_late_16 rfl ?_
    refine tr_bipush (v := -9) dX8_late_17 (by decide) ?_
    -- at 19: .if_icmp .ne 8
    refine tr_icmp_ne (tgt := 27) dX8_late_19 (by decide) (fun h4 => ?_) (fun h4 => ?_)
    · exact absurd rfl h4
    · refine tr_bipush (v := nI 61) dX8_late_22 (by decide) ?_
      refine tr_goto (tgt := 28) dX8_late_24 (by decide) ?_
      -- at 28: .ireturn
      refine tr_iret dX8_late_28 (by first | exact trivial | rfl) ⟨e1.trans u1, by rw [show t = 61 by omega]⟩
theorem r_answered (hm : MR μ 105 (nowM σ)) (h0 : nowM σ 18 ≠ 0) (hr : MR μ 108 c) (hw : wfc c) (h18 : c 18 = nowM σ 18) : cp X (d + 7) kX8_answered [.ref 99] μ (qi (fun v μ' => sP (fun b => b = 107 ∨ b = 108) μ μ' ∧ MR μ' 108 c ∧ v = nI (ansM c))) := by
  have h7 := hw.1
  have ha : ansM c = mnN 99 (fun k => tM 61 (aiM c k)) (10 * c 18) := by
    obtain ⟨m, hm⟩ : ∃ m, 10 * c 18 = m + 1 := ⟨10 * c 18 - 1, by omega⟩
    rw [ansM, hm, mnN_99 _ (fun k => tM_le 61 _)]
  rw [ha]
  refine cp_of ok_X8_answered (L := [.ref 99, .float 0, .float 0, .float 0, .float 0, .float 0]) rfl ?_
  refine tr_bipush (v := nI 99) dX8_answered_0 (by decide) ?_
  refine tr_istore_n_1 dX8_answered_2 (by decide) (by first | rfl | assumption) ?_
  refine tr_iconst (v := nI 0) dX8_answered_3 (by decide) ?_
  refine tr_istore_n_2 dX8_answered_4 (by decide) (by first | rfl | assumption) ?_
  -- at 5: .iload_n 2
  refine tw_for3 (n := 10 * c 18) (Lf := fun k w1 w2 w3 => [.ref 99, .int (nI (mnN 99 (fun k => tM 61 (aiM c k)) k)), .int (nI k), w1, w2, w3]) (P := fun k μ1 => sP (fun b => b = 107 ∨ b = 108) μ μ1 ∧ MR μ1 108 c) (fun k w1 w2 w3 μ1 c1 c2 c3 hk hP ih => ?_) (fun w1 w2 w3 μ1 c1 c2 c3 hP => ?_) 0 (.float 0) (.float 0) (.float 0) _ (by omega) rfl rfl rfl ⟨sP.rf _ μ, hr⟩
  · obtain ⟨p1, p2⟩ := hP
    have k18 : μ1.1 105 18 = nI (c 18) := by rw [(p1 105 (by omega)).1, h18]; exact hm 18 (by omega)
    have hq : k / 10 < 7 := by omega
    have k11 := p2 (11 + k / 10) (by omega)
    have hml := (mnN_le 99 (fun k => tM 61 (aiM c k)) k).1
    have hwa : wfc (aiM c k) := hw.goal hq (Nat.mod_lt _ (by omega))
    have emn : mnN 99 (fun k => tM 61 (aiM c k)) (k + 1) = min (mnN 99 (fun k => tM 61 (aiM c k)) k) (tM 61 (aiM c k)) := rfl
    rw [emn] at ih
    generalize mnN 99 (fun k => tM 61 (aiM c k)) k = mn at *
    refine tr_iload_n dX8_answered_5 rfl ?_
    refine tr_bipush (v := nI 10) dX8_answered_6 (by decide) ?_
    refine tr_aload_n dX8_answered_8 rfl ?_
    refine tr_getR dX8_answered_9 fg_RX8_26 (by first | assumption | decide) (by first | assumption | rfl) rfl (by omega) ?_
    refine tr_bipush (v := nI 18) dX8_answered_12 (by decide) ?_
    refine tr_iald dX8_answered_14 (by first | assumption | decide) (by first | assumption | rfl) rfl (by omega) (by omega) (by first | assumption | rfl) ?_
    first | with_reducible refine tr_imulN dX8_answered_15 ?_ | refine tr_imul dX8_answered_15 ?_
    -- at 16: .if_icmp .ge 72
    refine tr_geN (tgt := 88) dX8_answered_16 (by decide) (by omega) (by omega) (fun h1 => ?_) (fun h1 => ?_)
    · omega
    · refine tr_iload_n dX8_answered_19 rfl ?_
      refine tr_bipush (v := nI 10) dX8_answered_20 (by decide) ?_
      first | with_reducible refine tr_idivN dX8_answered_22 (by omega) (by omega) (by omega) ?_ | refine tr_idiv dX8_answered_22 (by decide) ?_
      refine tr_istore_n_3 dX8_answered_23 (by decide) (by first | rfl | assumption) ?_
      refine tr_aload_n dX8_answered_24 rfl ?_
      refine tr_getR dX8_answered_25 fg_RX8_35 (by first | assumption | decide) (by first | assumption | rfl) rfl (by omega) ?_
      refine tr_bipush (v := nI 11) dX8_answered_28 (by decide) ?_
      refine tr_iload_n dX8_answered_30 rfl ?_
      first | with_reducible refine tr_iaddN dX8_answered_31 ?_ | refine tr_iadd dX8_answered_31 ?_
      refine tr_iald dX8_answered_32 (by first | assumption | decide) (by first | assumption | rfl) rfl (by omega) (by omega) (by first | assumption | rfl) ?_
      refine tr_istore_4 dX8_answered_33 (by decide) (by first | rfl | assumption) ?_
      refine tr_aload_n dX8_answered_35 rfl ?_
      refine tr_getR dX8_answered_36 fg_RX8_35 (by first | assumption | decide) (by first | assumption | rfl) rfl (by omega) ?_
      refine tr_bipush (v := nI 11) dX8_answered_39 (by decide) ?_
      refine tr_iload_n dX8_answered_41 rfl ?_
      first | with_reducible refine tr_iaddN dX8_answered_42 ?_ | refine tr_iadd dX8_answered_42 ?_
      refine tr_iload_n dX8_answered_43 rfl ?_
      refine tr_bipush (v := nI 10) dX8_answered_44 (by decide) ?_
      first | with_reducible refine tr_iremN dX8_answered_46 (by omega) (by omega) (by omega) ?_ | refine tr_irem dX8_answered_46 (by decide) ?_
      refine tr_iast dX8_answered_47 (by first | assumption | decide) (by first | assumption | rfl) rfl (by omega) (by omega) ?_
      -- at 48: .aload_n 0
      have hr2 : MR (sI μ1 108 (upd (μ1.1 108) (11 + k / 10) (nI (k % 10)))) 108 (aiM c k) := p2.set (11 + k / 10) (k % 10)
      have hs2 := p1.put (a := 108) (upd (μ1.1 108) (11 + k / 10) (nI (k % 10))) (Or.inr rfl)
      generalize sI μ1 108 (upd (μ1.1 108) (11 + k / 10) (nI (k % 10))) = μ2 at hr2 hs2 ⊢
      refine tr_aload_n dX8_answered_48 rfl ?_
      refine tr_aload_n dX8_answered_49 rfl ?_
      refine tr_getR dX8_answered_50 fg_RX8_35 (by first | assumption | decide) (by first | assumption | rfl) rfl (by omega) ?_
      -- at 53: .invokevirtual 190
      refine tr_Vi (As := [_]) dX8_answered_53 fm_RX8_190 rfl rfl (by first | assumption | decide) (by first | assumption | rfl) (Nat.le_of_ble_eq_true rfl) (r_late isA_108 (by omega) hr2 hwa) (fun v μ3 ⟨e1, e2⟩ => ?_)
      subst v
      have hs3 := hs2.trans (sP.of (P := fun b => b = 107 ∨ b = 108) e1 (fun b hb => Or.inl (by simpa using hb)))
      have hr3 : MR μ3 108 (aiM c k) := hr2.kept (e1.1 108 (by decide))
      have hr4 : MR (sI μ3 108 (upd (μ3.1 108) (11 + k / 10) (nI (c (11 + k / 10))))) 108 c := by
        have := hr3.set (11 + k / 10) (c (11 + k / 10))
        rw [aiM, nu_nu] at this
        exact this
      have hs4 := hs3.put (a := 108) (upd (μ3.1 108) (11 + k / 10) (nI (c (11 + k / 10)))) (Or.inr rfl)
      have htl := tM_le 61 (aiM c k)
      generalize tM 61 (aiM c k) = t at *
      refine tr_istore_5 dX8_answered_56 (by decide) (by first | rfl | assumption) ?_
      refine tr_iload dX8_answered_58 rfl ?_
      refine tr_iload_n dX8_answered_60 rfl ?_
      -- at 61: .if_icmp .ge 8
      refine tr_geN (tgt := 69) dX8_answered_61 (by decide) (by omega) (by omega) (fun h2 => ?_) (fun h2 => ?_)
      · rw [show min mn t = mn by omega] at ih
        refine tr_iload_n dX8_answered_69 rfl ?_
        refine tr_istore_n_1 dX8_answered_70 (by decide) (by first | rfl | assumption) ?_
        refine tr_aload_n dX8_answered_71 rfl ?_
        refine tr_getR dX8_answered_72 fg_RX8_35 (by first | assumption | decide) (by first | assumption | rfl) rfl (by omega) ?_
        refine tr_bipush (v := nI 11) dX8_answered_75 (by decide) ?_
        refine tr_iload_n dX8_answered_77 rfl ?_
        first | with_reducible refine tr_iaddN dX8_answered_78 ?_ | refine tr_iadd dX8_answered_78 ?_
        refine tr_iload dX8_answered_79 rfl ?_
        refine tr_iast dX8_answered_81 (by first | assumption | decide) (by first | assumption | rfl) rfl (by omega) (by omega) ?_
        first | with_reducible refine tr_iincN_2 dX8_answered_82 (by decide) rfl ?_ | with_reducible refine tr_iincN_2 dX8_answered_82 (by decide) (by assumption) ?_ | refine tr_iinc_2 dX8_answered_82 (by decide) (by first | rfl | assumption) ?_
        refine tr_goto (tgt := 5) dX8_answered_85 (by decide) ?_
        -- at 5: .iload_n 2
        exact ih _ _ _ _ rfl rfl rfl ⟨hs4, hr4⟩
      · rw [show min mn t = t by omega] at ih
        refine tr_iload dX8_answered_64 rfl ?_
        refine tr_goto (tgt := 70) dX8_answered_66 (by decide) ?_
        refine tr_istore_n_1 dX8_answered_70 (by decide) (by first | rfl | assumption) ?_
        refine tr_aload_n dX8_answered_71 rfl ?_
        refine tr_getR dX8_answered_72 fg_RX8_35 (by first | assumption | decide) (by first | assumption | rfl) rfl (by omega) ?_
        refine tr_bipush (v := nI 11) dX8_answered_75 (by decide) ?_
        refine tr_iload_n dX8_answered_77 rfl ?_
        first | with_reducible refine tr_iaddN dX8_answered_78 ?_ | refine tr_iadd dX8_answered_78 ?_
        refine tr_iload dX8_answered_79 rfl ?_
        refine tr_iast dX8_answered_81 (by first | assumption | decide) (by first | assumption | rfl) rfl (by omega) (by omega) ?_
        first | with_reducible refine tr_iincN_2 dX8_answered_82 (by decide) rfl ?_ | with_reducible refine tr_iincN_2 dX8_answered_82 (by decide) (by assumption) ?_ | refine tr_iinc_2 dX8_answered_82 (by decide) (by first | rfl | assumption) ?_
        refine tr_goto (tgt := 5) dX8_answered_85 (by decide) ?_
        -- at 5: .iload_n 2
        exact ih _ _ _ _ rfl rfl rfl ⟨hs4, hr4⟩
  · obtain ⟨p1, p2⟩ := hP
    have k18 : μ1.1 105 18 = nI (c 18) := by rw [(p1 105 (by omega)).1, h18]; exact hm 18 (by omega)
    refine tr_iload_n dX8_answered_5 rfl ?_
    refine tr_bipush (v := nI 10) dX8_answered_6 (by decide) ?_
    refine tr_aload_n dX8_answered_8 rfl ?_
    refine tr_getR dX8_answered_9 fg_RX8_26 (by first | assumption | decide) (by first | assumption | rfl) rfl (by omega) ?_
    refine tr_bipush (v := nI 18) dX8_answered_12 (by decide) ?_
    refine tr_iald dX8_answered_14 (by first | assumption | decide) (by first | assumption | rfl) rfl (by omega) (by omega) (by first | assumption | rfl) ?_
    first | with_reducible refine tr_imulN dX8_answered_15 ?_ | refine tr_imul dX8_answered_15 ?_
    -- at 16: .if_icmp .ge 72
    refine tr_geN (tgt := 88) dX8_answered_16 (by decide) (by omega) (by omega) (fun h1 => ?_) (fun h1 => ?_)
    · refine tr_iload_n dX8_answered_88 rfl ?_
      -- at 89: .ireturn
      refine tr_iret dX8_answered_89 (by first | exact trivial | rfl) ⟨p1, p2, rfl⟩
    · omega
theorem r_duel (h : MI μ σ) (hW : WI σ) : cp X (d + 8) kX8_duel [.ref 99, .int x] μ (PM μ (S_duel σ x)) := by
  have hw := hW.now
  have h7 := hw.1
  have hm := h.2.2.1
  have k18 := hm 18 (by omega)
  refine cp_of ok_X8_duel (L := [.ref 99, .int x, .float 0, .float 0, .float 0, .float 0]) rfl ?_
  refine tr_iload_n dX8_duel_0 rfl ?_
  refine tr_iconst (v := nI 0) dX8_duel_1 (by decide) ?_
  refine tr_iconst (v := nI 2) dX8_duel_2 (by decide) ?_
  -- at 3: .invokestatic 73
  refine tr_Si (As := [_, _, _]) dX8_duel_3 fm_RX8_73 rfl rfl (Nat.le_of_ble_eq_true rfl) (r_in) (fun v μ1 ⟨e1, e2⟩ => ?_)
  subst μ1; subst v
  rw [in_ix x (by omega)]
  cases hx : ixV x 3 with
  | none =>
    refine tr_ifb1 (tgt := 11) dX8_duel_6 (by decide) (fun h2 => ?_) (fun h2 => ?_)
    · cases h2
    · refine tr_iconst (v := -1) dX8_duel_9 (by decide) ?_
      exact tr_iret dX8_duel_10 (by first | exact trivial | rfl) (pm_same h (by simp only [S_duel, hx]))
  | some q =>
    obtain ⟨rfl, hq⟩ := ixV_some (by omega) hx
    refine tr_ifb1 (tgt := 11) dX8_duel_6 (by decide) (fun h2 => ?_) (fun h2 => ?_)
    · refine tr_aload_n dX8_duel_11 rfl ?_
      refine tr_getR dX8_duel_12 fg_RX8_26 (by first | assumption | decide) (by first | assumption | rfl) rfl (by omega) ?_
      refine tr_bipush (v := nI 18) dX8_duel_15 (by decide) ?_
      refine tr_iald dX8_duel_17 (by first | assumption | decide) (by first | assumption | rfl) rfl (by omega) (by omega) (by first | assumption | rfl) ?_
      -- at 18: .ifCond .ne 6
      refine tr_ifnN (tgt := 24) dX8_duel_18 (by decide) (by omega) (fun h3 => ?_) (fun h3 => ?_)
      · have eS : S_duel σ (nI q) = if q = 0 then (nI (tM 61 (nowM σ)), σ) else (nI (duM (decide (q = 2)) (nowM σ)), σ) := by simp only [S_duel, hx]; rw [if_neg h3]
        rw [eS]
        refine tr_aload_n dX8_duel_24 rfl ?_
        refine tr_getR dX8_duel_25 fg_RX8_26 (by first | assumption | decide) (by first | assumption | rfl) rfl (by omega) ?_
        refine tr_aload_n dX8_duel_28 rfl ?_
        refine tr_getR dX8_duel_29 fg_RX8_35 (by first | assumption | decide) (by first | assumption | rfl) rfl (by omega) ?_
        -- at 32: .invokestatic 163
        refine tr_Sv (As := [_, _]) dX8_duel_32 fm_RX8_163 rfl rfl (Nat.le_of_ble_eq_true rfl) (r_copies isA_105 isA_108 (by omega) hm) (fun μ1 ⟨e1, e2⟩ => ?_)
        have hs1 := sP.of (P := fun b => b = 107 ∨ b = 108) e1 (fun b hb => Or.inr (by simpa using hb))
        refine tr_iload_n dX8_duel_35 rfl ?_
        -- at 36: .ifCond .ne 12
        refine tr_ifnN (tgt := 48) dX8_duel_36 (by decide) (by omega) (fun h4 => ?_) (fun h4 => ?_)
        · rw [if_neg h4]
          have hfin : ∀ μ' : am_M, sP (fun b => b = 107 ∨ b = 108) μ μ' → MI μ' σ ∧ fq μ μ' := fun μ' hs => ⟨h.scr (hs.wide (fun b hb => by unfold scrM; omega)), hs.fq (fun b hb => by omega)⟩
          refine tr_iconst (v := -1) dX8_duel_48 (by decide) ?_
          refine tr_istore_n_2 dX8_duel_49 (by decide) (by first | rfl | assumption) ?_
          refine tr_iconst (v := nI 0) dX8_duel_50 (by decide) ?_
          refine tr_istore_n_3 dX8_duel_51 (by decide) (by first | rfl | assumption) ?_
          -- at 52: .iload_n 3
          refine tw_for3 (n := 10 * nowM σ 18) (Lf := fun k w1 w2 w3 => [.ref 99, .int (nI q), .int (mx1 (dueV (decide (q = 2)) (nowM σ)) k), .int (nI k), w1, w2]) (P := fun k μ1 => sP (fun b => b = 107 ∨ b = 108) μ μ1 ∧ MR μ1 108 (nowM σ)) (fun k w1 w2 w3 μ2 c1 c2 c3 hk hP ih => ?_) (fun w1 w2 w3 μ2 c1 c2 c3 hP => ?_) 0 (.float 0) (.float 0) (.float 0) _ (by omega) rfl rfl rfl ⟨hs1, e2⟩
          · obtain ⟨p1, p2⟩ := hP
            have m105 : μ2.1 105 = μ.1 105 := (p1 105 (by omega)).1
            have k18 : μ2.1 105 18 = nI (nowM σ 18) := by rw [m105]; exact k18
            have hq7 : k / 10 < 7 := by omega
            have hwa : wfc (aiM (nowM σ) k) := hw.goal hq7 (Nat.mod_lt _ (by omega))
            have hdl := dueV_le (decide (q = 2)) (nowM σ) k
            refine tr_iload_n dX8_duel_52 rfl ?_
            refine tr_bipush (v := nI 10) dX8_duel_53 (by decide) ?_
            refine tr_aload_n dX8_duel_55 rfl ?_
            refine tr_getR dX8_duel_56 fg_RX8_26 (by first | assumption | decide) (by first | assumption | rfl) rfl (by omega) ?_
            refine tr_bipush (v := nI 18) dX8_duel_59 (by decide) ?_
            refine tr_iald dX8_duel_61 (by first | assumption | decide) (by first | assumption | rfl) rfl (by omega) (by omega) (by first | assumption | rfl) ?_
            first | with_reducible refine tr_imulN dX8_duel_62 ?_ | refine tr_imul dX8_duel_62 ?_
            -- at 63: .if_icmp .ge 84
            refine tr_geN (tgt := 147) dX8_duel_63 (by decide) (by omega) (by omega) (fun h1 => ?_) (fun h1 => ?_)
            · omega
            · refine tr_iload_n dX8_duel_66 rfl ?_
              refine tr_bipush (v := nI 10) dX8_duel_67 (by decide) ?_
              first | with_reducible refine tr_idivN dX8_duel_69 (by omega) (by omega) (by omega) ?_ | refine tr_idiv dX8_duel_69 (by decide) ?_
              refine tr_istore_4 dX8_duel_70 (by decide) (by first | rfl | assumption) ?_
              refine tr_aload_n dX8_duel_72 rfl ?_
              refine tr_getR dX8_duel_73 fg_RX8_35 (by first | assumption | decide) (by first | assumption | rfl) rfl (by omega) ?_
              refine tr_bipush (v := nI 11) dX8_duel_76 (by decide) ?_
              refine tr_iload dX8_duel_78 rfl ?_
              first | with_reducible refine tr_iaddN dX8_duel_80 ?_ | refine tr_iadd dX8_duel_80 ?_
              refine tr_iload_n dX8_duel_81 rfl ?_
              refine tr_bipush (v := nI 10) dX8_duel_82 (by decide) ?_
              first | with_reducible refine tr_iremN dX8_duel_84 (by omega) (by omega) (by omega) ?_ | refine tr_irem dX8_duel_84 (by decide) ?_
              refine tr_iast dX8_duel_85 (by first | assumption | decide) (by first | assumption | rfl) rfl (by omega) (by omega) ?_
              -- at 86: .iload_n 1
              have hr2 : MR (sI μ2 108 (upd (μ2.1 108) (11 + k / 10) (nI (k % 10)))) 108 (aiM (nowM σ) k) := p2.set (11 + k / 10) (k % 10)
              have hs2 := p1.put (a := 108) (upd (μ2.1 108) (11 + k / 10) (nI (k % 10))) (Or.inr rfl)
              generalize sI μ2 108 (upd (μ2.1 108) (11 + k / 10) (nI (k % 10))) = μ3 at hr2 hs2 ⊢
              have hrest : ∀ (w5 : Value) (μ4 : am_M), sP (fun b => b = 107 ∨ b = 108) μ μ4 → MR μ4 108 (aiM (nowM σ) k) → tw X (d + 7) kX8_duel (PM μ (nI (duM (decide (q = 2)) (nowM σ)), σ)) 106 [.ref 99, .int (nI q), .int (mx1 (dueV (decide (q = 2)) (nowM σ)) k), .int (nI k), .int (nI (k / 10)), w5] [.int (nI (dueV (decide (q = 2)) (nowM σ) k))] μ4 := by
                intro w5 μ4 hs4 hr4
                have k11 : μ4.1 105 (11 + k / 10) = nI (nowM σ (11 + k / 10)) := by rw [(hs4 105 (by omega)).1]; exact hm _ (by omega)
                have hr5 : MR (sI μ4 108 (upd (μ4.1 108) (11 + k / 10) (nI (nowM σ (11 + k / 10))))) 108 (nowM σ) := by
                  have := hr4.set (11 + k / 10) (nowM σ (11 + k / 10))
                  rw [aiM, nu_nu] at this
                  exact this
                have hs5 := hs4.put (a := 108) (upd (μ4.1 108) (11 + k / 10) (nI (nowM σ (11 + k / 10)))) (Or.inr rfl)
                have emx : mx1 (dueV (decide (q = 2)) (nowM σ)) (k + 1) = if nI (dueV (decide (q = 2)) (nowM σ) k) ≤ mx1 (dueV (decide (q = 2)) (nowM σ)) k then mx1 (dueV (decide (q = 2)) (nowM σ)) k else nI (dueV (decide (q = 2)) (nowM σ) k) := by
                  cases k with
                  | zero =>
                    have hz : ¬ nI (dueV (decide (q = 2)) (nowM σ) 0) ≤ mx1 (dueV (decide (q = 2)) (nowM σ)) 0 := fun t => by
                      have t' := Int32.le_iff_toInt_le.mp t
                      rw [nI_toInt (by omega)] at t'
                      have : (mx1 (dueV (decide (q = 2)) (nowM σ)) 0).toInt = -1 := rfl
                      omega
                    rw [if_neg hz]
                    show nI (max 0 _) = _
                    rw [Nat.zero_max]
                  | succ k =>
                    have hmx : mxN (dueV (decide (q = 2)) (nowM σ)) (k + 1) ≤ 61 := mxN_le _ _ _ (fun k _ => dueV_le _ _ k)
                    show nI (max (mxN (dueV (decide (q = 2)) (nowM σ)) (k + 1)) (dueV (decide (q = 2)) (nowM σ) (k + 1))) = if _ ≤ nI (mxN (dueV (decide (q = 2)) (nowM σ)) (k + 1)) then nI (mxN (dueV (decide (q = 2)) (nowM σ)) (k + 1)) else _
                    by_cases e : dueV (decide (q = 2)) (nowM σ) (k + 1) ≤ mxN (dueV (decide (q = 2)) (nowM σ)) (k + 1)
                    · rw [if_pos ((nI_leI (by omega) (by omega)).mpr e), Nat.max_eq_left e]
                    · rw [if_neg (fun t => e ((nI_leI (by omega) (by omega)).mp t)), Nat.max_eq_right (by omega)]
                rw [emx] at ih
                generalize dueV (decide (q = 2)) (nowM σ) k = dv at *
                generalize mx1 (dueV (decide (q = 2)) (nowM σ)) k = mv at *
                refine tr_istore_5 dX8_duel_106 (by decide) (by first | rfl | assumption) ?_
                refine tr_iload dX8_duel_108 rfl ?_
                refine tr_iload_n dX8_duel_110 rfl ?_
                -- at 111: .if_icmp .le 8
                refine tr_icmp_le (tgt := 119) dX8_duel_111 (by decide) (fun h6 => ?_) (fun h6 => ?_)
                · rw [if_pos h6] at ih
                  refine tr_iload_n dX8_duel_119 rfl ?_
                  refine tr_istore_n_2 dX8_duel_120 (by decide) (by first | rfl | assumption) ?_
                  refine tr_aload_n dX8_duel_121 rfl ?_
                  refine tr_getR dX8_duel_122 fg_RX8_35 (by first | assumption | decide) (by first | assumption | rfl) rfl (by omega) ?_
                  refine tr_bipush (v := nI 11) dX8_duel_125 (by decide) ?_
                  refine tr_iload dX8_duel_127 rfl ?_
                  first | with_reducible refine tr_iaddN dX8_duel_129 ?_ | refine tr_iadd dX8_duel_129 ?_
                  refine tr_aload_n dX8_duel_130 rfl ?_
                  refine tr_getR dX8_duel_131 fg_RX8_26 (by first | assumption | decide) (by first | assumption | rfl) rfl (by omega) ?_
                  refine tr_bipush (v := nI 11) dX8_duel_134 (by decide) ?_
                  refine tr_iload dX8_duel_136 rfl ?_
                  first | with_reducible refine tr_iaddN dX8_duel_138 ?_ | refine tr_iadd dX8_duel_138 ?_
                  refine tr_iald dX8_duel_139 (by first | assumption | decide) (by first | assumption | rfl) rfl (by omega) (by omega) (by first | assumption | rfl) ?_
                  refine tr_iast dX8_duel_140 (by first | assumption | decide) (by first | assumption | rfl) rfl (by omega) (by omega) ?_
                  first | with_reducible refine tr_iincN_3 dX8_duel_141 (by decide) rfl ?_ | with_reducible refine tr_iincN_3 dX8_duel_141 (by decide) (by assumption) ?_ | refine tr_iinc_3 dX8_duel_141 (by decide) (by first | rfl | assumption) ?_
                  refine tr_goto (tgt := 52) dX8_duel_144 (by decide) ?_
                  -- at 52: .iload_n 3
                  exact ih _ _ w3 _ rfl rfl c3 ⟨hs5, hr5⟩
                · rw [if_neg h6] at ih
                  refine tr_iload dX8_duel_114 rfl ?_
                  refine tr_goto (tgt := 120) dX8_duel_116 (by decide) ?_
                  refine tr_istore_n_2 dX8_duel_120 (by decide) (by first | rfl | assumption) ?_
                  refine tr_aload_n dX8_duel_121 rfl ?_
                  refine tr_getR dX8_duel_122 fg_RX8_35 (by first | assumption | decide) (by first | assumption | rfl) rfl (by omega) ?_
                  refine tr_bipush (v := nI 11) dX8_duel_125 (by decide) ?_
                  refine tr_iload dX8_duel_127 rfl ?_
                  first | with_reducible refine tr_iaddN dX8_duel_129 ?_ | refine tr_iadd dX8_duel_129 ?_
                  refine tr_aload_n dX8_duel_130 rfl ?_
                  refine tr_getR dX8_duel_131 fg_RX8_26 (by first | assumption | decide) (by first | assumption | rfl) rfl (by omega) ?_
                  refine tr_bipush (v := nI 11) dX8_duel_134 (by decide) ?_
                  refine tr_iload dX8_duel_136 rfl ?_
                  first | with_reducible refine tr_iaddN dX8_duel_138 ?_ | refine tr_iadd dX8_duel_138 ?_
                  refine tr_iald dX8_duel_139 (by first | assumption | decide) (by first | assumption | rfl) rfl (by omega) (by omega) (by first | assumption | rfl) ?_
                  refine tr_iast dX8_duel_140 (by first | assumption | decide) (by first | assumption | rfl) rfl (by omega) (by omega) ?_
                  first | with_reducible refine tr_iincN_3 dX8_duel_141 (by decide) rfl ?_ | with_reducible refine tr_iincN_3 dX8_duel_141 (by decide) (by assumption) ?_ | refine tr_iinc_3 dX8_duel_141 (by decide) (by first | rfl | assumption) ?_
                  refine tr_goto (tgt := 52) dX8_duel_144 (by decide) ?_
                  -- at 52: .iload_n 3
                  exact ih _ _ w3 _ rfl rfl c3 ⟨hs5, hr5⟩
              refine tr_iload_n dX8_duel_86 rfl ?_
              refine tr_iconst (v := nI 1) dX8_duel_87 (by decide) ?_
              -- at 88: .if_icmp .ne 14
              refine tr_neN (tgt := 102) dX8_duel_88 (by decide) (by omega) (by omega) (fun h5 => ?_) (fun h5 => ?_)
              · refine tr_aload_n dX8_duel_102 rfl ?_
                -- at 103: .invokevirtual 193
                refine tr_Vi (As := []) dX8_duel_103 fm_RX8_193 rfl rfl (by first | assumption | decide) (by first | assumption | rfl) (Nat.le_of_ble_eq_true rfl) (r_answered (σ := σ) (hm.kept (hs2 105 (by omega)).1) h3 hr2 hwa (by show nu _ _ _ 18 = _; rw [nu_n _ _ (by omega)])) (fun v μ4 ⟨u1, u2, u3⟩ => ?_)
                subst v
                rw [show ansM (aiM (nowM σ) k) = dueV (decide (q = 2)) (nowM σ) k by rw [dueV, decide_eq_true (show q = 2 by omega), if_pos rfl]]
                exact hrest _ μ4 (hs2.trans u1) u2
              · refine tr_aload_n dX8_duel_91 rfl ?_
                refine tr_aload_n dX8_duel_92 rfl ?_
                refine tr_getR dX8_duel_93 fg_RX8_35 (by first | assumption | decide) (by first | assumption | rfl) rfl (by omega) ?_
                -- at 96: .invokevirtual 190
                refine tr_Vi (As := [_]) dX8_duel_96 fm_RX8_190 rfl rfl (by first | assumption | decide) (by first | assumption | rfl) (Nat.le_of_ble_eq_true rfl) (r_late isA_108 (by omega) hr2 hwa) (fun v μ4 ⟨u1, u2⟩ => ?_)
                subst v
                rw [show tM 61 (aiM (nowM σ) k) = dueV (decide (q = 2)) (nowM σ) k by rw [dueV, decide_eq_false (show ¬ q = 2 by omega), if_neg (by decide)]]
                refine tr_goto (tgt := 106) dX8_duel_99 (by decide) ?_
                -- at 106: .istore 5
                exact hrest _ μ4 (hs2.trans (sP.of u1 (fun b hb => Or.inl (by simpa using hb)))) (hr2.kept (u1.1 108 (by decide)))
          · obtain ⟨p1, p2⟩ := hP
            have m105 : μ2.1 105 = μ.1 105 := (p1 105 (by omega)).1
            have k18 : μ2.1 105 18 = nI (nowM σ 18) := by rw [m105]; exact k18
            have emx : mx1 (dueV (decide (q = 2)) (nowM σ)) (10 * nowM σ 18) = nI (duM (decide (q = 2)) (nowM σ)) := by
              obtain ⟨m, hm⟩ : ∃ m, 10 * nowM σ 18 = m + 1 := ⟨10 * nowM σ 18 - 1, by omega⟩
              rw [duM, hm]
              rfl
            rw [emx]
            refine tr_iload_n dX8_duel_52 rfl ?_
            refine tr_bipush (v := nI 10) dX8_duel_53 (by decide) ?_
            refine tr_aload_n dX8_duel_55 rfl ?_
            refine tr_getR dX8_duel_56 fg_RX8_26 (by first | assumption | decide) (by first | assumption | rfl) rfl (by omega) ?_
            refine tr_bipush (v := nI 18) dX8_duel_59 (by decide) ?_
            refine tr_iald dX8_duel_61 (by first | assumption | decide) (by first | assumption | rfl) rfl (by omega) (by omega) (by first | assumption | rfl) ?_
            first | with_reducible refine tr_imulN dX8_duel_62 ?_ | refine tr_imul dX8_duel_62 ?_
            -- at 63: .if_icmp .ge 84
            refine tr_geN (tgt := 147) dX8_duel_63 (by decide) (by omega) (by omega) (fun h1 => ?_) (fun h1 => ?_)
            · refine tr_iload_n dX8_duel_147 rfl ?_
              -- at 148: .ireturn
              refine tr_iret dX8_duel_148 (by first | exact trivial | rfl) ⟨rfl, (hfin μ2 p1).1, (hfin μ2 p1).2⟩
            · omega
        · rw [if_pos h4]
          refine tr_aload_n dX8_duel_39 rfl ?_
          refine tr_aload_n dX8_duel_40 rfl ?_
          refine tr_getR dX8_duel_41 fg_RX8_35 (by first | assumption | decide) (by first | assumption | rfl) rfl (by omega) ?_
          -- at 44: .invokevirtual 190
          refine tr_Vi (As := [_]) dX8_duel_44 fm_RX8_190 rfl rfl (by first | assumption | decide) (by first | assumption | rfl) (Nat.le_of_ble_eq_true rfl) (r_late isA_108 (by omega) e2 hw) (fun v μ2 ⟨u1, u2⟩ => ?_)
          have hs := hs1.trans (sP.of (P := fun b => b = 107 ∨ b = 108) u1 (fun b hb => Or.inl (by simpa using hb)))
          refine tr_iret dX8_duel_47 (by first | exact trivial | rfl) ⟨u2, h.scr (hs.wide (fun b hb => by unfold scrM; omega)), hs.fq (fun b hb => by omega)⟩
      · refine tr_bipush (v := -4) dX8_duel_21 (by decide) ?_
        exact tr_iret dX8_duel_23 (by first | exact trivial | rfl) (pm_same h (by simp only [S_duel, hx]; rw [if_pos h3]))
    · cases h2
theorem l_rlots {m0 : am_M} {N : Nat} {sd : Int32} (hN : N ≤ 20) {P : Int32 × SG} : ∀ (m i x : Nat) (σ : SG) (w6 w7 : Value) (μ : am_M), i + m = N → w6.category = 1 → w7.category = 1 → x < 2 ^ 31 → MI μ σ → WI σ → nowM σ 18 ≠ 0 → (sL σ).length + m ≤ 40 → fq m0 μ → P = (nI (numM (nowM (lotL m x σ)) (nowM (lotL m x σ) 18)), lotL m x σ) → tw X (d + 4) kX8_lots (PM m0 P) 55 [.ref 99, .int (nI N), .int sd, .long (lN x), .float 0, .int (nI i), w6, w7] [] μ
  | m, i, x, σ, w6, w7, μ, him, c6, c7, hx, h, hW, h0, hl, hf, hP => by
    have hw := hW.now
    have h7 := hw.1
    have hm := h.2.2.1
    have k18 := hm 18 (by omega)
    have ht := hW.tick
    refine tr_iload dX8_lots_55 rfl ?_
    refine tr_iload_n dX8_lots_57 rfl ?_
    -- at 58: .if_icmp .ge 117
    refine tr_geN (tgt := 175) dX8_lots_58 (by decide) (by omega) (by omega) (fun h1 => ?_) (fun h1 => ?_)
    · obtain rfl : m = 0 := by omega
      rw [show lotL 0 x σ = σ from rfl] at hP
      refine tr_aload_n dX8_lots_175 rfl ?_
      refine tr_getR dX8_lots_176 fg_RX8_26 (by first | assumption | decide) (by first | assumption | rfl) rfl (by omega) ?_
      -- at 179: .invokestatic 167
      refine tr_Si (As := [_]) dX8_lots_179 fm_RX8_167 rfl rfl (Nat.le_of_ble_eq_true rfl) (r_shown isA_105 hm hw) (fun v μ1 ⟨e1, e2⟩ => ?_)
      subst μ1; subst v
      refine tr_iret dX8_lots_182 (by first | exact trivial | rfl) (pm_e hP rfl h hf)
    · obtain ⟨m', rfl⟩ : ∃ m', m = m' + 1 := ⟨m - 1, by omega⟩
      have hx2 : lotN x < 2147483647 := Nat.mod_lt _ (by omega)
      refine tr_lload_n dX8_lots_61 rfl ?_
      refine tr_ldc2 (v := lN 48271) dX8_lots_62 fk_RX8_211 ?_
      refine tr_lmul dX8_lots_65 ?_
      -- at 66: .ldc2_w 213
      rw [lN_mul]
      refine tr_ldc2 (v := lN 2147483647) dX8_lots_66 fk_RX8_213 ?_
      refine tr_lrem dX8_lots_69 (by decide) ?_
      -- at 70: .lstore_n 3
      rw [pk_lRem (by omega) (by omega) (by omega)]
      rw [show x * 48271 % 2147483647 = lotN x from rfl]
      rw [lotL] at hP
      obtain ⟨g1, g2⟩ := hW.app h0 (lotD_ok (x := lotN x) hw h0) (by omega)
      have hok := lotD_ok (x := lotN x) hw h0
      generalize lotN x = y at *
      have hq : y / 8 % nowM σ 18 < nowM σ 18 := Nat.mod_lt _ (by omega)
      have hv : y / 64 % 10 < 10 := Nat.mod_lt _ (by omega)
      have hnext : ∀ (a b : Int32) (μ1 μ2 : am_M), DB μ μ1 σ → sP (fun b => b = 105) μ1 μ2 → MR μ2 105 (doM (lotD (nowM σ) y) (nowM σ)) → tw X (d + 4) kX8_lots (PM m0 P) 169 [.ref 99, .int (nI N), .int sd, .long (lN y), .float 0, .int (nI i), .int a, .int b] [] μ2 := by
        intro a b μ1 μ2 hd hs hc
        first | with_reducible refine tr_iincN_5 dX8_lots_169 (by decide) rfl ?_ | with_reducible refine tr_iincN_5 dX8_lots_169 (by decide) (by assumption) ?_ | refine tr_iinc_5 dX8_lots_169 (by decide) (by first | rfl | assumption) ?_
        refine tr_goto (tgt := 55) dX8_lots_172 (by decide) ?_
        -- at 55: .iload 5
        exact l_rlots hN m' (i + 1) y (gL σ (sL σ ++ [lotD (nowM σ) y])) (.int a) (.int b) μ2 (by omega) rfl rfl (by omega) (hd.done h hs hc) g1 (by rw [g2]; exact h0) (by show (sL σ ++ [lotD (nowM σ) y]).length + m' ≤ 40; simp; omega) (hf.trans ((hd.1.fq (fun b hb => by omega)).trans (hs.fq (fun b hb => by omega)))) hP
      refine tr_lstore_n_3 dX8_lots_70 (by decide) (by first | rfl | assumption) ?_
      refine tr_lload_n dX8_lots_71 rfl ?_
      refine tr_ldc2 (v := lN 8) dX8_lots_72 fk_RX8_215 ?_
      refine tr_ldiv dX8_lots_75 (by decide) ?_
      -- at 76: .aload_n 0
      rw [pk_lDiv (by omega) (by omega) (by omega)]
      refine tr_aload_n dX8_lots_76 rfl ?_
      refine tr_getR dX8_lots_77 fg_RX8_26 (by first | assumption | decide) (by first | assumption | rfl) rfl (by omega) ?_
      refine tr_bipush (v := nI 18) dX8_lots_80 (by decide) ?_
      refine tr_iald dX8_lots_82 (by first | assumption | decide) (by first | assumption | rfl) rfl (by omega) (by omega) (by first | assumption | rfl) ?_
      refine tr_i2l dX8_lots_83 ?_
      -- at 84: .lrem
      rw [nI_l (by omega)]
      refine tr_lrem dX8_lots_84 (fun q => by have := (pk_lEQ (b := 0) (by omega) (by omega)).mp q; omega) ?_
      rw [pk_lRem (by omega) (by omega) (by omega)]
      refine tr_l2i dX8_lots_85 ?_
      -- at 86: .istore 6
      rw [lN_i]
      refine tr_istore_6 dX8_lots_86 (by decide) (by first | rfl | assumption) ?_
      refine tr_lload_n dX8_lots_88 rfl ?_
      refine tr_ldc2 (v := lN 8) dX8_lots_89 fk_RX8_215 ?_
      refine tr_lrem dX8_lots_92 (by decide) ?_
      -- at 93: .l2i
      rw [pk_lRem (by omega) (by omega) (by omega)]
      refine tr_l2i dX8_lots_93 ?_
      -- at 94: .istore 7
      rw [lN_i]
      refine tr_istore_7 dX8_lots_94 (by decide) (by first | rfl | assumption) ?_
      refine tr_aload_n dX8_lots_96 rfl ?_
      -- at 97: .invokevirtual 150
      refine tr_Vv (As := []) dX8_lots_97 fm_RX8_150 rfl rfl (by first | assumption | decide) (by first | assumption | rfl) (Nat.le_of_ble_eq_true rfl) (r_does h (by omega)) (fun μ1 hd => ?_)
      have hm1 : MR μ1 105 (nowM σ) := hm.kept (hd.1 105 (by omega)).1
      have k3 := hm1 3 (by omega)
      have k1 := hm1 1 (by omega)
      refine tr_iload dX8_lots_100 rfl ?_
      -- at 102: .ifCond .ne 19
      refine tr_ifnN (tgt := 121) dX8_lots_102 (by decide) (by omega) (fun h2 => ?_) (fun h2 => ?_)
      · refine tr_iload dX8_lots_121 rfl ?_
        refine tr_iconst (v := nI 3) dX8_lots_123 (by decide) ?_
        -- at 124: .if_icmp .ge 26
        refine tr_geN (tgt := 150) dX8_lots_124 (by decide) (by omega) (by omega) (fun h3 => ?_) (fun h3 => ?_)
        · have e : lotD (nowM σ) y = (if nowM σ 1 < 99 then 256 * 0 + 16 * 0 + 0 else 256 * 4 + 16 * 0 + 0) := by rw [lotD, if_neg h2, if_neg (by omega)]
          rw [if_pos (by omega)] at e
          refine tr_aload_n dX8_lots_150 rfl ?_
          refine tr_getR dX8_lots_151 fg_RX8_26 (by first | assumption | decide) (by first | assumption | rfl) rfl (by omega) ?_
          refine tr_iconst (v := nI 1) dX8_lots_154 (by decide) ?_
          refine tr_iald dX8_lots_155 (by first | assumption | decide) (by first | assumption | rfl) rfl (by omega) (by omega) (by first | assumption | rfl) ?_
          refine tr_bipush (v := nI 99) dX8_lots_156 (by decide) ?_
          -- at 158: .if_icmp .ge 11
          refine tr_geN (tgt := 169) dX8_lots_158 (by decide) (by omega) (by omega) (fun h4 => ?_) (fun h4 => ?_)
          · omega
          · refine tr_aload_n dX8_lots_161 rfl ?_
            refine tr_getR dX8_lots_162 fg_RX8_26 (by first | assumption | decide) (by first | assumption | rfl) rfl (by omega) ?_
            -- at 165: .invokestatic 153
            refine tr_Si (As := [_]) dX8_lots_165 fm_RX8_153 rfl rfl (Nat.le_of_ble_eq_true rfl) (r_goes isA_105 hm1 hw) (fun v μ2 ⟨e1, e2, e3⟩ => ?_)
            refine tr_pop dX8_lots_168 rfl ?_
            -- at 169: .iinc 5 1
            exact hnext _ _ μ1 μ2 hd (sP.of e1 (fun b hb => by simpa using hb)) (by rw [e, doM, if_pos (by decide)]; exact e2)
        · have e : lotD (nowM σ) y = 256 * 1 + 16 * (y / 8 % nowM σ 18) + y / 64 % 10 := by rw [lotD, if_neg h2, if_pos (by omega)]
          refine tr_aload_n dX8_lots_127 rfl ?_
          refine tr_getR dX8_lots_128 fg_RX8_26 (by first | assumption | decide) (by first | assumption | rfl) rfl (by omega) ?_
          refine tr_bipush (v := nI 11) dX8_lots_131 (by decide) ?_
          refine tr_iload dX8_lots_133 rfl ?_
          first | with_reducible refine tr_iaddN dX8_lots_135 ?_ | refine tr_iadd dX8_lots_135 ?_
          refine tr_lload_n dX8_lots_136 rfl ?_
          refine tr_ldc2 (v := lN 64) dX8_lots_137 fk_RX8_217 ?_
          -- at 140: .ldiv
          refine tr_ldiv dX8_lots_140 (by decide) ?_
          -- at 141: .ldc2_w 219
          rw [pk_lDiv (by omega) (by omega) (by omega)]
          refine tr_ldc2 (v := lN 10) dX8_lots_141 fk_RX8_219 ?_
          refine tr_lrem dX8_lots_144 (by decide) ?_
          -- at 145: .l2i
          rw [pk_lRem (by omega) (by omega) (by omega)]
          refine tr_l2i dX8_lots_145 ?_
          -- at 146: .iastore
          rw [lN_i]
          generalize y / 8 % nowM σ 18 = q at *
          generalize y / 64 % 10 = v at *
          refine tr_iast dX8_lots_146 (by first | assumption | decide) (by first | assumption | rfl) rfl (by omega) (by omega) ?_
          -- at 147: .goto 22
          have hm2 := hm1.set (11 + q) v
          have hs := (sP.rf (fun b => b = 105) μ1).put (a := 105) (upd (μ1.1 105) (11 + q) (nI v)) rfl
          generalize sI μ1 105 (upd (μ1.1 105) (11 + q) (nI v)) = μ2 at hm2 hs ⊢
          refine tr_goto (tgt := 169) dX8_lots_147 (by decide) ?_
          -- at 169: .iinc 5 1
          exact hnext _ _ μ1 μ2 hd hs (by
            rw [e, doM, if_neg (by omega), if_pos (by omega), show (256 * 1 + 16 * q + v) / 16 % 16 = q by omega, show (256 * 1 + 16 * q + v) % 16 = v by omega]
            exact hm2)
      · have e : lotD (nowM σ) y = 256 * 3 + 16 * (y / 8 % nowM σ 18) + 0 := by rw [lotD, if_pos h2]
        generalize y / 8 % nowM σ 18 = q at *
        refine tr_aload_n dX8_lots_105 rfl ?_
        refine tr_getR dX8_lots_106 fg_RX8_26 (by first | assumption | decide) (by first | assumption | rfl) rfl (by omega) ?_
        refine tr_iconst (v := nI 3) dX8_lots_109 (by decide) ?_
        refine tr_dup2 dX8_lots_110 rfl rfl ?_
        refine tr_iald dX8_lots_111 (by first | assumption | decide) (by first | assumption | rfl) rfl (by omega) (by omega) (by first | assumption | rfl) ?_
        refine tr_iconst (v := nI 1) dX8_lots_112 (by decide) ?_
        refine tr_iload dX8_lots_113 rfl ?_
        refine tr_ishl dX8_lots_115 ?_
        refine tr_ixor dX8_lots_116 ?_
        -- at 117: .iastore
        refine tr_v (jam_flip _ hw.jam q (by omega)) ?_
        refine tr_iast dX8_lots_117 (by first | assumption | decide) (by first | assumption | rfl) rfl (by omega) (by omega) ?_
        -- at 118: .goto 51
        have hm2 := hm1.set 3 (nowM σ 3 ^^^ 2 ^ q)
        have hs := (sP.rf (fun b => b = 105) μ1).put (a := 105) (upd (μ1.1 105) 3 (nI (nowM σ 3 ^^^ 2 ^ q))) rfl
        generalize sI μ1 105 (upd (μ1.1 105) 3 (nI (nowM σ 3 ^^^ 2 ^ q))) = μ2 at hm2 hs ⊢
        refine tr_goto (tgt := 169) dX8_lots_118 (by decide) ?_
        -- at 169: .iinc 5 1
        exact hnext _ _ μ1 μ2 hd hs (by
          rw [e, doM, if_neg (by omega), if_neg (by omega), if_neg (by omega), if_pos (by omega), show (256 * 3 + 16 * q + 0) / 16 % 16 = q by omega]
          exact hm2)
  termination_by m => m
theorem r_lots (h : MI μ σ) (hW : WI σ) : cp X (d + 5) kX8_lots [.ref 99, .int x, .int y] μ (PM μ (S_lots σ x y)) := by
  have hw := hW.now
  have h7 := hw.1
  have hm := h.2.2.1
  have h10 := h.2.2.2.1
  have hl := hW.2.2.1.1
  have k18 := hm 18 (by omega)
  refine cp_of ok_X8_lots (L := [.ref 99, .int x, .int y, .float 0, .float 0, .float 0, .float 0, .float 0]) rfl ?_
  refine tr_iload_n dX8_lots_0 rfl ?_
  refine tr_iconst (v := nI 1) dX8_lots_1 (by decide) ?_
  refine tr_bipush (v := nI 20) dX8_lots_2 (by decide) ?_
  -- at 4: .invokestatic 73
  refine tr_Si (As := [_, _, _]) dX8_lots_4 fm_RX8_73 rfl rfl (Nat.le_of_ble_eq_true rfl) (r_in) (fun v μ1 ⟨e1, e2⟩ => ?_)
  subst μ1; subst v
  refine tr_ifb0 (tgt := 20) dX8_lots_7 (by decide) (fun h1 => ?_) (fun h1 => ?_)
  · have h1' := of_decide_eq_false h1
    refine tr_iconst (v := -1) dX8_lots_20 (by decide) ?_
    exact tr_iret dX8_lots_21 (by first | exact trivial | rfl) (pm_same h (by rw [S_lots, if_neg (fun q => h1' ⟨q.1, q.2.1⟩)]))
  · have h1' := of_decide_eq_true h1
    refine tr_iload_n dX8_lots_10 rfl ?_
    refine tr_iconst (v := nI 1) dX8_lots_11 (by decide) ?_
    refine tr_ldc (v := 2147483646) dX8_lots_12 fk_RX8_210 ?_
    -- at 14: .invokestatic 73
    refine tr_Si (As := [_, _, _]) dX8_lots_14 fm_RX8_73 rfl rfl (Nat.le_of_ble_eq_true rfl) (r_in) (fun v μ1 ⟨e1, e2⟩ => ?_)
    subst μ1; subst v
    refine tr_ifb1 (tgt := 22) dX8_lots_17 (by decide) (fun h2 => ?_) (fun h2 => ?_)
    · have h2' := of_decide_eq_true h2
      have eS : S_lots σ x y = if nowM σ 18 = 0 then (-4, σ) else if 40 < (sL σ).length + x.toNatClampNeg then (-2, σ) else (nI (numM (nowM (lotL x.toNatClampNeg y.toNatClampNeg σ)) (nowM (lotL x.toNatClampNeg y.toNatClampNeg σ) 18)), lotL x.toNatClampNeg y.toNatClampNeg σ) := by rw [S_lots, if_pos ⟨h1'.1, h1'.2, h2'.1, h2'.2⟩]
      rw [eS]
      obtain ⟨n, hn, rfl⟩ := nI_of (x := x) (Int32.not_lt.mpr (Int32.le_trans (by decide) h1'.1))
      obtain ⟨s, hs, rfl⟩ := nI_of (x := y) (Int32.not_lt.mpr (Int32.le_trans (by decide) h2'.1))
      have hn20 : n ≤ 20 := (nI_leI (b := 20) hn (by omega)).mp h1'.2
      rw [nI_clamp hn, nI_clamp hs]
      refine tr_aload_n dX8_lots_22 rfl ?_
      refine tr_getR dX8_lots_23 fg_RX8_26 (by first | assumption | decide) (by first | assumption | rfl) rfl (by omega) ?_
      refine tr_bipush (v := nI 18) dX8_lots_26 (by decide) ?_
      refine tr_iald dX8_lots_28 (by first | assumption | decide) (by first | assumption | rfl) rfl (by omega) (by omega) (by first | assumption | rfl) ?_
      -- at 29: .ifCond .ne 6
      refine tr_ifnN (tgt := 35) dX8_lots_29 (by decide) (by omega) (fun h5 => ?_) (fun h5 => ?_)
      · rw [if_neg h5]
        refine tr_aload_n dX8_lots_35 rfl ?_
        refine tr_getI dX8_lots_36 fg_RX8_111 (by first | assumption | decide) (by first | assumption | rfl) rfl (by first | assumption | rfl) ?_
        refine tr_iload_n dX8_lots_39 rfl ?_
        first | with_reducible refine tr_iaddN dX8_lots_40 ?_ | refine tr_iadd dX8_lots_40 ?_
        refine tr_bipush (v := nI 40) dX8_lots_41 (by decide) ?_
        -- at 43: .if_icmp .le 6
        refine tr_leN (tgt := 49) dX8_lots_43 (by decide) (by omega) (by omega) (fun h6 => ?_) (fun h6 => ?_)
        · rw [if_neg (by omega)]
          refine tr_iload_n dX8_lots_49 rfl ?_
          refine tr_i2l dX8_lots_50 ?_
          -- at 51: .lstore_n 3
          rw [nI_l hs]
          refine tr_lstore_n_3 dX8_lots_51 (by decide) (by first | rfl | assumption) ?_
          refine tr_iconst (v := nI 0) dX8_lots_52 (by decide) ?_
          refine tr_istore_5 dX8_lots_53 (by decide) (by first | rfl | assumption) ?_
          -- at 55: .iload 5
          exact l_rlots hn20 n 0 s σ (.float 0) (.float 0) μ (by omega) rfl rfl hs h hW h5 (by omega) (fq.rf μ) rfl
        · rw [if_pos (by omega)]
          refine tr_bipush (v := -2) dX8_lots_46 (by decide) ?_
          exact tr_iret dX8_lots_48 (by first | exact trivial | rfl) (pm_same h (rfl))
      · rw [if_pos h5]
        refine tr_bipush (v := -4) dX8_lots_32 (by decide) ?_
        exact tr_iret dX8_lots_34 (by first | exact trivial | rfl) (pm_same h (rfl))
    · have h2' := of_decide_eq_false h2
      refine tr_iconst (v := -1) dX8_lots_20 (by decide) ?_
      exact tr_iret dX8_lots_21 (by first | exact trivial | rfl) (pm_same h (by rw [S_lots, if_neg (fun q => h2' ⟨q.2.2.1, q.2.2.2⟩)]))
end M12
