-- ===== more power is never later =====
theorem rdyM_ne (c : NF) {i q v : Nat} (hi : i < 7) (h : q ≠ i) : rdyM (nu c (4 + i) v) q = rdyM c q := by
  unfold rdyM
  rw [nu_n _ _ (by omega), nu_n _ _ (by omega), nu_n _ _ (by omega), nu_n _ _ (by omega), nu_n _ _ (by omega)]
theorem nxM_ne (c : NF) {i q v : Nat} (hi : i < 7) (h : q ≠ i) : nxM (nu c (4 + i) v) q = nxM c q := by
  unfold nxM
  rw [nu_n _ _ (by omega), nu_n _ _ (by omega), nu_n _ _ (by omega), nu_n _ _ (by omega)]
theorem jmM_ne (c : NF) {i q v : Nat} : jmM (nu c (4 + i) v) q = jmM c q := by
  unfold jmM
  rw [nu_n _ _ (by omega)]
theorem goM_lo : ∀ (m i n : Nat) (c : NF) (q : Nat), i + m ≤ 7 → (goM m i n c).1 (4 + q) = c (4 + q) ∨ ((rdyM c q && !jmM c q) = true ∧ (goM m i n c).1 (4 + q) = nxM c q)
  | 0, i, n, c, q, _ => Or.inl rfl
  | m + 1, i, n, c, q, him => by
    unfold goM
    split
    · split
      · rename_i h1 h2
        by_cases e : q = i
        · subst e
          exact Or.inr ⟨h2, by rw [goM_keep _ _ _ _ _ (by omega), nu_s]⟩
        · have := goM_lo m (i + 1) (n + 1) (nu c (4 + i) (nxM c i)) q (by omega)
          rw [rdyM_ne c (by omega) e, nxM_ne c (by omega) e, jmM_ne, nu_n (j := 4 + q) _ _ (by omega)] at this
          exact this
      · exact goM_lo m (i + 1) n c q (by omega)
    · exact Or.inl rfl
theorem goM_hi : ∀ (m i n : Nat) (c : NF) (q : Nat), i + m ≤ 7 → n + m ≤ c 0 → i ≤ q → q < i + m → (goM m i n c).1 (4 + q) = if (rdyM c q && !jmM c q) = true then nxM c q else c (4 + q)
  | 0, i, n, c, q, _, _, _, _ => by omega
  | m + 1, i, n, c, q, him, hn, hiq, hqi => by
    unfold goM
    rw [if_pos (by omega)]
    by_cases h2 : (rdyM c i && !jmM c i) = true
    · rw [if_pos h2]
      by_cases e : q = i
      · subst e
        rw [goM_keep _ _ _ _ _ (by omega), nu_s, if_pos h2]
      · have := goM_hi m (i + 1) (n + 1) (nu c (4 + i) (nxM c i)) q (by omega) (by rw [nu_n _ _ (by omega)]; omega) (by omega) (by omega)
        rw [rdyM_ne c (by omega) e, nxM_ne c (by omega) e, jmM_ne, nu_n (j := 4 + q) _ _ (by omega)] at this
        exact this
    · rw [if_neg h2]
      by_cases e : q = i
      · subst e
        rw [goM_keep _ _ _ _ _ (by omega), if_neg h2]
      · exact goM_hi m (i + 1) n c q (by omega) (by omega) (by omega) (by omega)
def advM (kd g mk s : Nat) : Nat := if s = g then s else trnM kd s g mk
def itM (kd g mk : Nat) : Nat → Nat → Nat
  | 0, s => s
  | k + 1, s => itM kd g mk k (advM kd g mk s)
theorem itM_g (kd g mk : Nat) : ∀ k, itM kd g mk k g = g
  | 0 => rfl
  | k + 1 => by rw [itM, advM, if_pos rfl, itM_g kd g mk k]
theorem itM_s (kd g mk : Nat) : ∀ k s, itM kd g mk (k + 1) s = advM kd g mk (itM kd g mk k s)
  | 0, s => rfl
  | k + 1, s => by rw [itM, itM_s kd g mk k, ← itM]
def domM (c c' : NF) : Prop := wfc c ∧ wfc c' ∧ 7 ≤ c' 0 ∧ c' 1 = c 1 ∧ c' 3 = c 3 ∧ c' 18 = c 18 ∧ ∀ i, i < c 18 → c' (11 + i) = c (11 + i) ∧ c' (19 + i) = c (19 + i) ∧ c' (26 + i) = c (26 + i) ∧ ∃ k, c' (4 + i) = itM (c (19 + i)) (c (11 + i)) (c (26 + i)) k (c (4 + i))
theorem rdy_adv {c : NF} {i : Nat} (h : rdyM c i = true) : nxM c i = advM (c (19 + i)) (c (11 + i)) (c (26 + i)) (c (4 + i)) := by
  unfold rdyM at h
  rw [Bool.and_eq_true] at h
  rw [advM, if_neg (of_decide_eq_true h.1)]
  rfl
theorem domM.go {c c' : NF} (h : domM c c') : domM (goC c) (goC c') := by
  obtain ⟨w, w', h0, h1, h3, h18, hd⟩ := h
  have h7 := w.1
  have e18 := goC_keep w (j := 18) (by omega) (by omega) (by omega)
  refine ⟨goC_wf w, goC_wf w', by rw [goC_keep w' (by omega) (by omega) (by omega)]; exact h0, by rw [goC_1, goC_1, h1], by rw [goC_keep w' (by omega) (by omega) (by omega), goC_keep w (by omega) (by omega) (by omega)]; exact h3, by rw [goC_keep w' (by omega) (by omega) (by omega), e18]; exact h18, fun i hi => ?_⟩
  rw [e18] at hi
  obtain ⟨d11, d19, d26, k, hk⟩ := hd i hi
  rw [goC_keep w' (j := 11 + i) (by omega) (by omega) (by omega), goC_keep w' (j := 19 + i) (by omega) (by omega) (by omega), goC_keep w' (j := 26 + i) (by omega) (by omega) (by omega), goC_keep w (j := 11 + i) (by omega) (by omega) (by omega), goC_keep w (j := 19 + i) (by omega) (by omega) (by omega), goC_keep w (j := 26 + i) (by omega) (by omega) (by omega)]
  refine ⟨d11, d19, d26, ?_⟩
  have eL : goC c (4 + i) = (goM (c 18) 0 0 c).1 (4 + i) := by unfold goC; rw [nu_n _ _ (by omega), nu_n _ _ (by omega)]
  have eH : goC c' (4 + i) = if (rdyM c' i && !jmM c' i) = true then nxM c' i else c' (4 + i) := by
    unfold goC
    rw [nu_n _ _ (by omega), nu_n _ _ (by omega), goM_hi _ _ _ _ _ (by omega) (by omega) (by omega) (by omega)]
  have hlo := goM_lo (c 18) 0 0 c i (by omega)
  rw [← eL] at hlo
  have hj : jmM c' i = jmM c i := by unfold jmM; rw [h3]
  have hx : ∀ (k : Nat), c' (4 + i) = itM (c (19 + i)) (c (11 + i)) (c (26 + i)) k (goC c (4 + i)) → ∃ k, goC c' (4 + i) = itM (c (19 + i)) (c (11 + i)) (c (26 + i)) k (goC c (4 + i)) := by
    intro k hk
    rw [eH]
    by_cases e : (rdyM c' i && !jmM c' i) = true
    · refine ⟨k + 1, ?_⟩
      rw [if_pos e, itM_s, ← hk, rdy_adv (by rw [Bool.and_eq_true] at e; exact e.1), d11, d19, d26]
    · exact ⟨k, by rw [if_neg e]; exact hk⟩
  rcases hlo with e | ⟨e1, e2⟩
  · exact hx k (by rw [e]; exact hk)
  · have er : rdyM c i = true := by rw [Bool.and_eq_true] at e1; exact e1.1
    have ea := rdy_adv er
    cases k with
    | succ k => exact hx k (by rw [e2, ea]; exact hk)
    | zero =>
      refine ⟨0, ?_⟩
      have hk : c' (4 + i) = c (4 + i) := hk
      have er' : rdyM c' i = rdyM c i := by unfold rdyM; rw [hk, d11, d19, d26, h1]
      have en' : nxM c' i = nxM c i := by unfold nxM; rw [hk, d11, d19, d26]
      rw [eH, er', hj, if_pos e1, en', e2]
      rfl
theorem domM.told {c c' : NF} (h : domM c c') (ht : toldM c = true) : toldM c' = true := by
  obtain ⟨w, w', h0, h1, h3, h18, hd⟩ := h
  have ht := of_decide_eq_true ht
  refine decide_eq_true (fun i hi => ?_)
  rw [h18] at hi
  obtain ⟨d11, d19, d26, k, hk⟩ := hd i hi
  rw [hk, ht i hi, itM_g, d11]
theorem dom_tM : ∀ (m : Nat) (c c' : NF), domM c c' → tM m c' ≤ tM m c
  | 0, _, _, _ => Nat.le_refl _
  | m + 1, c, c', h => by
    unfold tM
    by_cases e : toldM c = true
    · rw [if_pos e, if_pos (h.told e)]; exact Nat.le_refl _
    · rw [if_neg e]
      split
      · omega
      · have := dom_tM m _ _ h.go
        omega
theorem pow_dom {c : NF} (h : wfc c) {p : Nat} (hp : p ≤ 9) : domM (nu c 0 p) (nu c 0 9) := by
  refine ⟨h.power hp, h.power (by omega), by rw [nu_s]; omega, by rw [nu_n _ _ (by omega), nu_n _ _ (by omega)], by rw [nu_n _ _ (by omega), nu_n _ _ (by omega)], by rw [nu_n _ _ (by omega), nu_n _ _ (by omega)], fun i hi => ⟨by rw [nu_n _ _ (by omega), nu_n _ _ (by omega)], by rw [nu_n _ _ (by omega), nu_n _ _ (by omega)], by rw [nu_n _ _ (by omega), nu_n _ _ (by omega)], 0, by rw [itM, nu_n _ _ (by omega), nu_n _ _ (by omega)]⟩⟩
theorem goI_2le : ∀ (k : Nat) (c : NF), c 2 ≤ goI k c 2
  | 0, _ => Nat.le_refl _
  | k + 1, c => by
    rw [goI]
    have := goI_2le k (goC c)
    rw [goC_2] at this
    omega
def tuM (c : NF) : Nat → Nat
  | 0 => 0
  | k + 1 => tuM c k + goN (goI k c)
theorem tuM_2 (c : NF) : ∀ k, goI k c 2 = c 2 + tuM c k
  | 0 => rfl
  | k + 1 => by rw [← goI_s, goC_2, tuM_2 c k, tuM, Nat.add_assoc]
theorem tw_for3 {X : Nat × (Nat → Int32)} {d : Nat} {K : am_K} {Q : Option Value → am_M → Prop} {pc : Nat} {n : Nat} {Lf : Nat → Value → Value → Value → List Value} {P : Nat → am_M → Prop} (step : ∀ k w1 w2 w3 μ, w1.category = 1 → w2.category = 1 → w3.category = 1 → k < n → P k μ → (∀ w1 w2 w3 μ', w1.category = 1 → w2.category = 1 → w3.category = 1 → P (k + 1) μ' → tw X d K Q pc (Lf (k + 1) w1 w2 w3) [] μ') → tw X d K Q pc (Lf k w1 w2 w3) [] μ) (fin : ∀ w1 w2 w3 μ, w1.category = 1 → w2.category = 1 → w3.category = 1 → P n μ → tw X d K Q pc (Lf n w1 w2 w3) [] μ) (k : Nat) (w1 w2 w3 : Value) (μ : am_M) (hk : k ≤ n) (h1 : w1.category = 1) (h2 : w2.category = 1) (h3 : w3.category = 1) (hP : P k μ) : tw X d K Q pc (Lf k w1 w2 w3) [] μ := by
  obtain ⟨m, hm⟩ : ∃ m, k + m = n := ⟨n - k, by omega⟩
  induction m generalizing k w1 w2 w3 μ with
  | zero =>
    have e : k = n := by omega
    subst e
    exact fin w1 w2 w3 μ h1 h2 h3 hP
  | succ m ih => exact step k w1 w2 w3 μ h1 h2 h3 (by omega) hP (fun w1 w2 w3 μ' g1 g2 g3 h' => ih (k + 1) w1 w2 w3 μ' (by omega) g1 g2 g3 h' (by omega))
theorem MI.same107 {μ μ' : am_M} {σ : SG} (h : MI μ σ) (hs : same μ μ' [107]) : MI μ' σ := h.scr (sP.of hs (fun b hb => by simp at hb; subst hb; exact Or.inr (Or.inr (Or.inl rfl))))
theorem fq107 {μ μ' : am_M} (hs : same μ μ' [107]) : fq μ μ' := (sP.of (P := fun b => b = 107) hs (fun b hb => by simpa using hb)).fq (fun b hb => by omega)
section M8
variable {X : Nat × (Nat → Int32)} {d : Nat} {μ : am_M} {σ : SG} {a b i j n p : Nat} {c : NF} {r x y z w : Int32} {f : Nat → Int32}
theorem r_later (h : MI μ σ) (hW : WI σ) : cp X (d + 5) kX8_later [.ref 99, .int x] μ (PM μ (S_later σ x)) := by
  have hw := hW.now
  have h7 := hw.1
  have hm := h.2.2.1
  have k18 := hm 18 (by omega)
  refine cp_of ok_X8_later (L := [.ref 99, .int x, .float 0, .float 0]) rfl ?_
  refine tr_iload_n dX8_later_0 rfl ?_
  refine tr_iconst (v := nI 0) dX8_later_1 (by decide) ?_
  refine tr_bipush (v := nI 60) dX8_later_2 (by decide) ?_
  -- at 4: .invokestatic 73
  refine tr_Si (As := [_, _, _]) dX8_later_4 fm_RX8_73 rfl rfl (Nat.le_of_ble_eq_true rfl) (r_in) (fun v μ1 ⟨e1, e2⟩ => ?_)
  subst μ1; subst v
  rw [in_ix x (by omega)]
  cases hx : ixV x 61 with
  | none =>
    refine tr_ifb1 (tgt := 12) dX8_later_7 (by decide) (fun h2 => ?_) (fun h2 => ?_)
    · cases h2
    · refine tr_iconst (v := -1) dX8_later_10 (by decide) ?_
      exact tr_iret dX8_later_11 (by first | exact trivial | rfl) (pm_same h (by simp only [S_later, hx]))
  | some q =>
    obtain ⟨rfl, hq⟩ := ixV_some (by omega) hx
    refine tr_ifb1 (tgt := 12) dX8_later_7 (by decide) (fun h2 => ?_) (fun h2 => ?_)
    · refine tr_aload_n dX8_later_12 rfl ?_
      refine tr_getR dX8_later_13 fg_RX8_26 (by first | assumption | decide) (by first | assumption | rfl) rfl (by omega) ?_
      refine tr_bipush (v := nI 18) dX8_later_16 (by decide) ?_
      refine tr_iald dX8_later_18 (by first | assumption | decide) (by first | assumption | rfl) rfl (by omega) (by omega) (by first | assumption | rfl) ?_
      -- at 19: .ifCond .ne 6
      refine tr_ifnN (tgt := 25) dX8_later_19 (by decide) (by omega) (fun h3 => ?_) (fun h3 => ?_)
      · have eS : S_later σ (nI q) = (nI (numM (goI q (nowM σ)) (nowM σ 18)), gA σ (nI (goI q (nowM σ) 2) - nI (nowM σ 2))) := by simp only [S_later, hx]; rw [if_neg h3]
        rw [eS]
        refine tr_aload_n dX8_later_25 rfl ?_
        refine tr_getR dX8_later_26 fg_RX8_26 (by first | assumption | decide) (by first | assumption | rfl) rfl (by omega) ?_
        refine tr_aload_n dX8_later_29 rfl ?_
        refine tr_getR dX8_later_30 fg_RX8_32 (by first | assumption | decide) (by first | assumption | rfl) rfl (by omega) ?_
        -- at 33: .invokestatic 163
        refine tr_Sv (As := [_, _]) dX8_later_33 fm_RX8_163 rfl rfl (Nat.le_of_ble_eq_true rfl) (r_copies isA_105 isA_107 (by omega) hm) (fun μ1 ⟨e1, e2⟩ => ?_)
        refine tr_iconst (v := nI 0) dX8_later_36 (by decide) ?_
        refine tr_istore_n_2 dX8_later_37 (by decide) (by first | rfl | assumption) ?_
        refine tr_iconst (v := nI 0) dX8_later_38 (by decide) ?_
        refine tr_istore_n_3 dX8_later_39 (by decide) (by first | rfl | assumption) ?_
        -- at 40: .iload_n 3
        refine tw_for (n := q) (Lf := fun k => [.ref 99, .int (nI q), .int (nI (tuM (nowM σ) k)), .int (nI k)]) (P := fun k μ2 => same μ μ2 [107] ∧ MR μ2 107 (goI k (nowM σ))) (fun k μ2 hk hP ih => ?_) (fun μ2 hP => ?_) 0 _ (by omega) ⟨e1, e2⟩
        · obtain ⟨p1, p2⟩ := hP
          refine tr_iload_n dX8_later_40 rfl ?_
          refine tr_iload_n dX8_later_41 rfl ?_
          -- at 42: .if_icmp .ge 19
          refine tr_geN (tgt := 61) dX8_later_42 (by decide) (by omega) (by omega) (fun h4 => ?_) (fun h4 => ?_)
          · omega
          · refine tr_iload_n dX8_later_45 rfl ?_
            refine tr_aload_n dX8_later_46 rfl ?_
            refine tr_getR dX8_later_47 fg_RX8_32 (by first | assumption | decide) (by first | assumption | rfl) rfl (by omega) ?_
            -- at 50: .invokestatic 153
            refine tr_Si (As := [_]) dX8_later_50 fm_RX8_153 rfl rfl (Nat.le_of_ble_eq_true rfl) (r_goes isA_107 p2 (goI_wf _ _ hw)) (fun v μ3 ⟨u1, u2, u3⟩ => ?_)
            subst v
            first | with_reducible refine tr_iaddN dX8_later_53 ?_ | refine tr_iadd dX8_later_53 ?_
            refine tr_istore_n_2 dX8_later_54 (by decide) (by first | rfl | assumption) ?_
            first | with_reducible refine tr_iincN_3 dX8_later_55 (by decide) rfl ?_ | with_reducible refine tr_iincN_3 dX8_later_55 (by decide) (by assumption) ?_ | refine tr_iinc_3 dX8_later_55 (by decide) (by first | rfl | assumption) ?_
            refine tr_goto (tgt := 40) dX8_later_58 (by decide) ?_
            -- at 40: .iload_n 3
            exact ih _ ⟨p1.trans u1, by rw [← goI_s]; exact u2⟩
        · obtain ⟨p1, p2⟩ := hP
          have ev : nI (goI q (nowM σ) 2) - nI (nowM σ 2) = nI (tuM (nowM σ) q) := by rw [pk_sub (goI_2le _ _), tuM_2, Nat.add_sub_cancel_left]
          rw [ev]
          refine tr_iload_n dX8_later_40 rfl ?_
          refine tr_iload_n dX8_later_41 rfl ?_
          -- at 42: .if_icmp .ge 19
          refine tr_geN (tgt := 61) dX8_later_42 (by decide) (by omega) (by omega) (fun h4 => ?_) (fun h4 => ?_)
          · refine tr_aload_n dX8_later_61 rfl ?_
            refine tr_iload_n dX8_later_62 rfl ?_
            refine tr_putI dX8_later_63 fp_RX8_70 (by first | assumption | decide) (by first | assumption | rfl) rfl ?_
            -- at 66: .aload_n 0
            have h2 := (h.same107 p1).asked (nI (tuM (nowM σ) q))
            have hm2 : MR (sI μ2 99 (upd (μ2.1 99) 14 (nI (tuM (nowM σ) q)))) 107 (goI q (nowM σ)) := p2.kept (by rw [sI_ne _ _ (by omega)])
            have hf2 : fq μ (sI μ2 99 (upd (μ2.1 99) 14 (nI (tuM (nowM σ) q)))) := (fq107 p1).trans (((sP.rf (fun b => b = 99) μ2).put _ rfl).fq (fun b hb => by omega))
            generalize sI μ2 99 (upd (μ2.1 99) 14 (nI (tuM (nowM σ) q))) = μ3 at h2 hm2 hf2 ⊢
            refine tr_aload_n dX8_later_66 rfl ?_
            refine tr_getR dX8_later_67 fg_RX8_32 (by first | assumption | decide) (by first | assumption | rfl) rfl (by omega) ?_
            -- at 70: .invokestatic 167
            refine tr_Si (As := [_]) dX8_later_70 fm_RX8_167 rfl rfl (Nat.le_of_ble_eq_true rfl) (r_shown isA_107 hm2 (goI_wf _ _ hw)) (fun v μ4 ⟨u1, u2⟩ => ?_)
            subst μ4; subst v
            rw [goI_keep q (nowM σ) hw 18 (by omega) (by omega) (by omega)]
            refine tr_iret dX8_later_73 (by first | exact trivial | rfl) ⟨rfl, h2, hf2⟩
          · omega
      · refine tr_bipush (v := -4) dX8_later_22 (by decide) ?_
        exact tr_iret dX8_later_24 (by first | exact trivial | rfl) (pm_same h (by simp only [S_later, hx]; rw [if_pos h3]))
    · cases h2
theorem r_ends (h : MI μ σ) (hW : WI σ) : cp X (d + 6) kX8_ends [.ref 99] μ (PM μ (S_ends σ)) := by
  have hw := hW.now
  have h7 := hw.1
  have hm := h.2.2.1
  have k18 := hm 18 (by omega)
  refine cp_of ok_X8_ends (L := [.ref 99, .float 0]) rfl ?_
  refine tr_aload_n dX8_ends_0 rfl ?_
  refine tr_getR dX8_ends_1 fg_RX8_26 (by first | assumption | decide) (by first | assumption | rfl) rfl (by omega) ?_
  refine tr_bipush (v := nI 18) dX8_ends_4 (by decide) ?_
  refine tr_iald dX8_ends_6 (by first | assumption | decide) (by first | assumption | rfl) rfl (by omega) (by omega) (by first | assumption | rfl) ?_
  -- at 7: .ifCond .ne 6
  refine tr_ifnN (tgt := 13) dX8_ends_7 (by decide) (by omega) (fun h3 => ?_) (fun h3 => ?_)
  · refine tr_aload_n dX8_ends_13 rfl ?_
    refine tr_getR dX8_ends_14 fg_RX8_26 (by first | assumption | decide) (by first | assumption | rfl) rfl (by omega) ?_
    refine tr_aload_n dX8_ends_17 rfl ?_
    refine tr_getR dX8_ends_18 fg_RX8_32 (by first | assumption | decide) (by first | assumption | rfl) rfl (by omega) ?_
    -- at 21: .invokestatic 163
    refine tr_Sv (As := [_, _]) dX8_ends_21 fm_RX8_163 rfl rfl (Nat.le_of_ble_eq_true rfl) (r_copies isA_105 isA_107 (by omega) hm) (fun μ1 ⟨e1, e2⟩ => ?_)
    refine tr_aload_n dX8_ends_24 rfl ?_
    refine tr_getR dX8_ends_25 fg_RX8_32 (by first | assumption | decide) (by first | assumption | rfl) rfl (by omega) ?_
    -- at 28: .invokestatic 174
    refine tr_Si (As := [_]) dX8_ends_28 fm_RX8_174 rfl rfl (Nat.le_of_ble_eq_true rfl) (r_told isA_107 e2 hw) (fun v μ2 ⟨u1, u2, u3⟩ => ?_)
    subst v
    have hs := e1.trans u1
    have h2 := h.same107 hs
    have hf := fq107 hs
    have k2 := h2.2.2.1 2 (by omega)
    have t2 := u3 2 (by omega)
    by_cases ht : tM 61 (nowM σ) < 61
    · rw [if_pos ht]
      refine tr_istore_n_1 dX8_ends_31 (by decide) (by first | rfl | assumption) ?_
      refine tr_aload_n dX8_ends_32 rfl ?_
      refine tr_iload_n dX8_ends_33 rfl ?_
      refine tr_bipush (v := -9) dX8_ends_34 (by decide) ?_
      -- at 36: .if_icmp .ne 10
      refine tr_icmp_ne (tgt := 46) dX8_ends_36 (by decide) (fun h4 => ?_) (fun h4 => ?_)
      · refine tr_aload_n dX8_ends_46 rfl ?_
        refine tr_getR dX8_ends_47 fg_RX8_32 (by first | assumption | decide) (by first | assumption | rfl) rfl (by omega) ?_
        refine tr_iconst (v := nI 2) dX8_ends_50 (by decide) ?_
        refine tr_iald dX8_ends_51 (by first | assumption | decide) (by first | assumption | rfl) rfl (by omega) (by omega) (by first | assumption | rfl) ?_
        refine tr_aload_n dX8_ends_52 rfl ?_
        refine tr_getR dX8_ends_53 fg_RX8_26 (by first | assumption | decide) (by first | assumption | rfl) rfl (by omega) ?_
        refine tr_iconst (v := nI 2) dX8_ends_56 (by decide) ?_
        refine tr_iald dX8_ends_57 (by first | assumption | decide) (by first | assumption | rfl) rfl (by omega) (by omega) (by first | assumption | rfl) ?_
        -- at 58: .isub
        refine tr_isub dX8_ends_58 ?_
        refine tr_putI dX8_ends_59 fp_RX8_70 (by first | assumption | decide) (by first | assumption | rfl) rfl ?_
        refine tr_iload_n dX8_ends_62 rfl ?_
        -- at 63: .ireturn
        refine tr_iret dX8_ends_63 (by first | exact trivial | rfl) (pm_e (q := (nI (tM 61 (nowM σ)), gA σ (nI (goI (tM 61 (nowM σ)) (nowM σ) 2) - nI (nowM σ 2)))) (by rw [S_ends, if_neg h3, if_neg (by omega)]) rfl (h2.asked _) (hf.trans (((sP.rf (fun b => b = 99) μ2).put _ rfl).fq (fun b hb => by omega))))
      · exact absurd h4 (nI_m9 (by omega))
    · rw [if_neg ht]
      have h14 := h2.2.2.2.2.2.2.1
      refine tr_istore_n_1 dX8_ends_31 (by decide) (by first | rfl | assumption) ?_
      refine tr_aload_n dX8_ends_32 rfl ?_
      refine tr_iload_n dX8_ends_33 rfl ?_
      refine tr_bipush (v := -9) dX8_ends_34 (by decide) ?_
      -- at 36: .if_icmp .ne 10
      refine tr_icmp_ne (tgt := 46) dX8_ends_36 (by decide) (fun h4 => ?_) (fun h4 => ?_)
      · exact absurd rfl h4
      · refine tr_aload_n dX8_ends_39 rfl ?_
        refine tr_getI dX8_ends_40 fg_RX8_70 (by first | assumption | decide) (by first | assumption | rfl) rfl (by first | assumption | rfl) ?_
        refine tr_goto (tgt := 59) dX8_ends_43 (by decide) ?_
        refine tr_putI dX8_ends_59 fp_RX8_70 (by first | assumption | decide) (by first | assumption | rfl) rfl ?_
        refine tr_iload_n dX8_ends_62 rfl ?_
        -- at 63: .ireturn
        refine tr_iret dX8_ends_63 (by first | exact trivial | rfl) (pm_e (q := (-9, σ)) (by rw [S_ends, if_neg h3, if_pos (by omega)]) rfl (h2.asked (sA σ)) (hf.trans (((sP.rf (fun b => b = 99) μ2).put _ rfl).fq (fun b hb => by omega))))
  · refine tr_bipush (v := -4) dX8_ends_10 (by decide) ?_
    exact tr_iret dX8_ends_12 (by first | exact trivial | rfl) (pm_same h (by rw [S_ends, if_pos h3]))
theorem l_rleast (h : MI μ σ) (hW : WI σ) (h3 : nowM σ 18 ≠ 0) {t : Nat} (ht : t = tM 61 (nu (nowM σ) 0 9)) (ht2 : t < 61) : ∀ (m p : Nat) (μ1 : am_M), p + m = 9 → 1 ≤ p → same μ μ1 [107] → tw X (d + 5) kX8_least (PM μ (nI (leaM (nowM σ) t m p), gA σ (nI t))) 42 [.ref 99, .int (nI t), .int (nI p)] [] μ1
  | m, p, μ1, hpm, hp, hs => by
    have hw := hW.now
    have h1 := h.same107 hs
    have hm := h1.2.2.1
    refine tr_iload_n dX8_least_42 rfl ?_
    refine tr_bipush (v := nI 10) dX8_least_43 (by decide) ?_
    -- at 45: .if_icmp .ge 51
    refine tr_geN (tgt := 96) dX8_least_45 (by decide) (by omega) (by omega) (fun g1 => ?_) (fun g1 => ?_)
    · omega
    · refine tr_iload_n dX8_least_48 rfl ?_
      refine tr_bipush (v := -9) dX8_least_49 (by decide) ?_
      -- at 51: .if_icmp .eq 45
      refine tr_icmp_eq (tgt := 96) dX8_least_51 (by decide) (fun g2 => ?_) (fun g2 => ?_)
      · exact absurd g2 (nI_m9 (by omega))
      · refine tr_aload_n dX8_least_54 rfl ?_
        refine tr_getR dX8_least_55 fg_RX8_26 (by first | assumption | decide) (by first | assumption | rfl) rfl (by omega) ?_
        refine tr_aload_n dX8_least_58 rfl ?_
        refine tr_getR dX8_least_59 fg_RX8_32 (by first | assumption | decide) (by first | assumption | rfl) rfl (by omega) ?_
        -- at 62: .invokestatic 163
        refine tr_Sv (As := [_, _]) dX8_least_62 fm_RX8_163 rfl rfl (Nat.le_of_ble_eq_true rfl) (r_copies isA_105 isA_107 (by omega) hm) (fun μ2 ⟨e1, e2⟩ => ?_)
        refine tr_aload_n dX8_least_65 rfl ?_
        refine tr_getR dX8_least_66 fg_RX8_32 (by first | assumption | decide) (by first | assumption | rfl) rfl (by omega) ?_
        refine tr_iconst (v := nI 0) dX8_least_69 (by decide) ?_
        refine tr_iload_n dX8_least_70 rfl ?_
        refine tr_iast dX8_least_71 (by first | assumption | decide) (by first | assumption | rfl) rfl (by omega) (by omega) ?_
        -- at 72: .aload_n 0
        have hr2 := e2.set 0 p
        have hs2 := (hs.trans e1).put (a := 107) (upd (μ2.1 107) 0 (nI p)) (by simp)
        generalize sI μ2 107 (upd (μ2.1 107) 0 (nI p)) = μ3 at hr2 hs2 ⊢
        refine tr_aload_n dX8_least_72 rfl ?_
        refine tr_getR dX8_least_73 fg_RX8_32 (by first | assumption | decide) (by first | assumption | rfl) rfl (by omega) ?_
        -- at 76: .invokestatic 174
        refine tr_Si (As := [_]) dX8_least_76 fm_RX8_174 rfl rfl (Nat.le_of_ble_eq_true rfl) (r_told isA_107 hr2 (hw.power (by omega))) (fun v μ4 ⟨u1, u2, u3⟩ => ?_)
        subst v
        have hs4 := hs2.trans u1
        have hd := dom_tM 61 _ _ (pow_dom hw (show p ≤ 9 by omega))
        rw [← ht] at hd
        have hle := tM_le 61 (nu (nowM σ) 0 p)
        have eL : tM 61 (nu (nowM σ) 0 p) ≤ t → leaM (nowM σ) t m p = p := by
          intro q
          cases m with
          | zero => rfl
          | succ m => rw [leaM, if_pos q]
        have hfin : tM 61 (nu (nowM σ) 0 p) = t → tw X (d + 5) kX8_least (PM μ (nI (leaM (nowM σ) t m p), gA σ (nI t))) 83 [.ref 99, .int (nI t), .int (nI p)] [] μ4 := by
          intro q
          rw [eL (by omega)]
          refine tr_aload_n dX8_least_83 rfl ?_
          refine tr_iload_n dX8_least_84 rfl ?_
          refine tr_putI dX8_least_85 fp_RX8_70 (by first | assumption | decide) (by first | assumption | rfl) rfl ?_
          refine tr_iload_n dX8_least_88 rfl ?_
          -- at 89: .ireturn
          refine tr_iret dX8_least_89 (by first | exact trivial | rfl) ⟨rfl, (h.same107 hs4).asked _, (fq107 hs4).trans (((sP.rf (fun b => b = 99) μ4).put _ rfl).fq (fun b hb => by omega))⟩
        have hno : tM 61 (nu (nowM σ) 0 p) ≠ t → tw X (d + 5) kX8_least (PM μ (nI (leaM (nowM σ) t m p), gA σ (nI t))) 90 [.ref 99, .int (nI t), .int (nI p)] [] μ4 := by
          intro q
          cases m with
          | zero =>
            obtain rfl : p = 9 := by omega
            exact absurd ht.symm q
          | succ m =>
            rw [leaM, if_neg (by omega)]
            first | with_reducible refine tr_iincN_2 dX8_least_90 (by decide) rfl ?_ | with_reducible refine tr_iincN_2 dX8_least_90 (by decide) (by assumption) ?_ | refine tr_iinc_2 dX8_least_90 (by decide) (by first | rfl | assumption) ?_
            refine tr_goto (tgt := 42) dX8_least_93 (by decide) ?_
            -- at 42: .iload_n 2
            exact l_rleast h hW h3 ht ht2 m (p + 1) μ4 (by omega) (by omega) hs4
        by_cases g3 : tM 61 (nu (nowM σ) 0 p) < 61
        · rw [if_pos g3]
          refine tr_iload_n dX8_least_79 rfl ?_
          -- at 80: .if_icmp .ne 10
          refine tr_neN (tgt := 90) dX8_least_80 (by decide) (by omega) (by omega) (fun g4 => ?_) (fun g4 => ?_)
          · exact hno g4
          · exact hfin g4
        · rw [if_neg g3]
          refine tr_iload_n dX8_least_79 rfl ?_
          -- at 80: .if_icmp .ne 10
          refine tr_icmp_ne (tgt := 90) dX8_least_80 (by decide) (fun g4 => ?_) (fun g4 => ?_)
          · exact hno (by omega)
          · exact absurd g4.symm (nI_m9 (by omega))
  termination_by m => m
theorem r_least (h : MI μ σ) (hW : WI σ) : cp X (d + 6) kX8_least [.ref 99] μ (PM μ (S_least σ)) := by
  have hw := hW.now
  have h7 := hw.1
  have hm := h.2.2.1
  have k18 := hm 18 (by omega)
  refine cp_of ok_X8_least (L := [.ref 99, .float 0, .float 0]) rfl ?_
  refine tr_aload_n dX8_least_0 rfl ?_
  refine tr_getR dX8_least_1 fg_RX8_26 (by first | assumption | decide) (by first | assumption | rfl) rfl (by omega) ?_
  refine tr_bipush (v := nI 18) dX8_least_4 (by decide) ?_
  refine tr_iald dX8_least_6 (by first | assumption | decide) (by first | assumption | rfl) rfl (by omega) (by omega) (by first | assumption | rfl) ?_
  -- at 7: .ifCond .ne 6
  refine tr_ifnN (tgt := 13) dX8_least_7 (by decide) (by omega) (fun h3 => ?_) (fun h3 => ?_)
  · refine tr_aload_n dX8_least_13 rfl ?_
    refine tr_getR dX8_least_14 fg_RX8_26 (by first | assumption | decide) (by first | assumption | rfl) rfl (by omega) ?_
    refine tr_aload_n dX8_least_17 rfl ?_
    refine tr_getR dX8_least_18 fg_RX8_32 (by first | assumption | decide) (by first | assumption | rfl) rfl (by omega) ?_
    -- at 21: .invokestatic 163
    refine tr_Sv (As := [_, _]) dX8_least_21 fm_RX8_163 rfl rfl (Nat.le_of_ble_eq_true rfl) (r_copies isA_105 isA_107 (by omega) hm) (fun μ1 ⟨e1, e2⟩ => ?_)
    refine tr_aload_n dX8_least_24 rfl ?_
    refine tr_getR dX8_least_25 fg_RX8_32 (by first | assumption | decide) (by first | assumption | rfl) rfl (by omega) ?_
    refine tr_iconst (v := nI 0) dX8_least_28 (by decide) ?_
    refine tr_bipush (v := nI 9) dX8_least_29 (by decide) ?_
    refine tr_iast dX8_least_31 (by first | assumption | decide) (by first | assumption | rfl) rfl (by omega) (by omega) ?_
    -- at 32: .aload_n 0
    have hr2 := e2.set 0 9
    have hs2 := e1.put (a := 107) (upd (μ1.1 107) 0 (nI 9)) (by simp)
    generalize sI μ1 107 (upd (μ1.1 107) 0 (nI 9)) = μ2 at hr2 hs2 ⊢
    refine tr_aload_n dX8_least_32 rfl ?_
    refine tr_getR dX8_least_33 fg_RX8_32 (by first | assumption | decide) (by first | assumption | rfl) rfl (by omega) ?_
    -- at 36: .invokestatic 174
    refine tr_Si (As := [_]) dX8_least_36 fm_RX8_174 rfl rfl (Nat.le_of_ble_eq_true rfl) (r_told isA_107 hr2 (hw.power (by omega))) (fun v μ3 ⟨u1, u2, u3⟩ => ?_)
    subst v
    have hs3 := hs2.trans u1
    by_cases ht : tM 61 (nu (nowM σ) 0 9) < 61
    · rw [if_pos ht]
      have eS : S_least σ = (nI (leaM (nowM σ) (tM 61 (nu (nowM σ) 0 9)) 8 1), gA σ (nI (tM 61 (nu (nowM σ) 0 9)))) := by rw [S_least, if_neg h3, if_neg (by omega)]
      rw [eS]
      refine tr_istore_n_1 dX8_least_39 (by decide) (by first | rfl | assumption) ?_
      refine tr_iconst (v := nI 1) dX8_least_40 (by decide) ?_
      refine tr_istore_n_2 dX8_least_41 (by decide) (by first | rfl | assumption) ?_
      -- at 42: .iload_n 2
      exact l_rleast h hW h3 rfl ht 8 1 μ3 (by omega) (by omega) hs3
    · rw [if_neg ht]
      refine tr_istore_n_1 dX8_least_39 (by decide) (by first | rfl | assumption) ?_
      refine tr_iconst (v := nI 1) dX8_least_40 (by decide) ?_
      refine tr_istore_n_2 dX8_least_41 (by decide) (by first | rfl | assumption) ?_
      -- at 42: .iload_n 2
      refine tr_iload_n dX8_least_42 rfl ?_
      refine tr_bipush (v := nI 10) dX8_least_43 (by decide) ?_
      -- at 45: .if_icmp .ge 51
      refine tr_geN (tgt := 96) dX8_least_45 (by decide) (by omega) (by omega) (fun g1 => ?_) (fun g1 => ?_)
      · omega
      · refine tr_iload_n dX8_least_48 rfl ?_
        refine tr_bipush (v := -9) dX8_least_49 (by decide) ?_
        -- at 51: .if_icmp .eq 45
        refine tr_icmp_eq (tgt := 96) dX8_least_51 (by decide) (fun g2 => ?_) (fun g2 => ?_)
        · refine tr_bipush (v := -9) dX8_least_96 (by decide) ?_
          -- at 98: .ireturn
          refine tr_iret dX8_least_98 (by first | exact trivial | rfl) (pm_e (q := (-9, σ)) (by rw [S_least, if_neg h3, if_pos (by omega)]) rfl (h.same107 hs3) (fq107 hs3))
        · exact absurd rfl g2
  · refine tr_bipush (v := -4) dX8_least_10 (by decide) ?_
    exact tr_iret dX8_least_12 (by first | exact trivial | rfl) (pm_same h (by rw [S_least, if_pos h3]))
end M8
