-- ===== the reference: drums, marks, deeds =====
theorem seen_30 : ∀ kd, kd < 6 → ∀ g, g < 10 → ∀ mk, mk < 10 → (seenM kd g mk 30).2 = (seenM kd g mk 10).2 := by decide +kernel
theorem bit10 : ∀ j, j < 1024 → ∀ i, i < 10 → (nI j >>> (nI i &&& 31)) &&& nI 1 = nI (bN (j.testBit i)) := by decide +kernel
theorem mod10 : ∀ a, a < 10 → ∀ b, b < 10 → ((nI a - nI b) + nI 10) - ((nI a - nI b) + nI 10) / nI 10 * nI 10 = nI ((a + 10 - b) % 10) := by decide +kernel
theorem ones_le : ∀ (k m : Nat), onesM k m ≤ k
  | 0, _ => Nat.le_refl 0
  | k + 1, m => by
    have := ones_le k m
    rw [onesM]
    split <;> omega
def pos1 (o : Option Nat) : Bool := match o with
  | some q => decide (q ≠ 0)
  | none => false
theorem in_p1 (x : Int32) {n : Nat} (hn : n + 1 < 2 ^ 31) : decide (nI 1 ≤ x ∧ x ≤ nI n) = pos1 (ixV x (n + 1)) := by
  cases hx : ixV x (n + 1) with
  | none =>
    refine decide_eq_false (fun q => ixV_none hx ?_)
    have h0 : (0 : Int32) ≤ x := Int32.le_trans (by decide) q.1
    obtain ⟨j, hj, rfl⟩ := nI_of (Int32.not_lt.mpr h0)
    exact ⟨h0, (nI_ltI hj hn).mpr (by have := (nI_leI hj (by omega)).mp q.2; omega)⟩
  | some q =>
    obtain ⟨rfl, hq⟩ := ixV_some hn hx
    by_cases e : q = 0
    · subst e
      rw [decide_eq_false (fun t => absurd t.1 (by decide))]; rfl
    · rw [decide_eq_true ⟨(nI_leI (by omega) (by omega)).mpr (by omega), (nI_leI (by omega) (by omega)).mpr (by omega)⟩]
      show true = decide (q ≠ 0)
      rw [decide_eq_true e]
theorem ix_out {x : Int32} {n : Nat} (hn : n + 1 < 2 ^ 31) (h : ixV x (n + 1) = none) : x.toInt < 0 ∨ (n : Int) < x.toInt := by
  by_cases h0 : x < 0
  · exact Or.inl (Int32.lt_iff_toInt_lt.mp h0)
  · obtain ⟨j, hj, rfl⟩ := nI_of h0
    refine Or.inr ?_
    rw [nI_toInt hj]
    have h1 := ixV_none h
    by_cases e : j < n + 1
    · exact absurd ⟨nI_pos' hj, (nI_ltI hj hn).mpr e⟩ h1
    · omega
theorem doM_hi {c : NF} {dd : Nat} (h : wfc c) (hd : dOK (c 18) dd) {j : Nat} (hj : 18 ≤ j) : doM dd c j = c j := by
  have h1 := h.1
  unfold doM
  split
  · exact goC_keep h (by omega) (by omega) (by omega)
  · split
    · rename_i e; obtain ⟨q1, q2⟩ := hd.2.1 e; rw [nu_n _ _ (by omega)]
    · split
      · rw [nu_n _ _ (by omega)]
      · split
        · rw [nu_n _ _ (by omega)]
        · rfl
theorem repM_hi : ∀ (l : List Nat) (c : NF), wfc c → (∀ dd ∈ l, dOK (c 18) dd) → ∀ j, 18 ≤ j → repM l c j = c j
  | [], c, _, _, _, _ => rfl
  | dd :: l, c, h, hd, j, hj => by
    have h1 := hd dd List.mem_cons_self
    have e := doM_18 h h1
    show repM l (doM dd c) j = _
    rw [repM_hi l (doM dd c) (doM_wf h h1) (fun x hx => by rw [e]; exact hd x (List.mem_cons_of_mem _ hx)) j hj, doM_hi h h1 hj]
theorem MI.deed {μ μ' : am_M} {σ : SG} {l : List Nat} (h : MI μ σ) (hs : sP (fun b => b = 99 ∨ b = 105 ∨ b = 109) μ μ') (hc : MR μ' 105 (repM l (sS σ))) (h99 : μ'.1 99 = upd (μ.1 99) 10 (nI l.length)) (h99J : μ'.2 99 = μ.2 99) (hp : PR μ' 109 0 (sS σ) l) : MI μ' (gL σ l) := by
  obtain ⟨h1, h2, h3, h4, h5, h6, h7, h8, h9, h10, h11⟩ := h
  have hn : ∀ b, ¬ (b = 99 ∨ b = 105 ∨ b = 109) → μ'.1 b = μ.1 b ∧ μ'.2 b = μ.2 b := hs
  exact ⟨fun r hr => (h1 r hr).kept (hn _ (by omega)).1 (hn _ (by omega)).1, fun t ht => (h2 t ht).kept (hn _ (by omega)).1 (hn _ (by omega)).1, hc, by rw [h99, pk_us]; rfl, hp, fun k hk => (h6 k hk).kept (hn _ (by omega)).1 (hn _ (by omega)).1 (hn _ (by omega)).1 rfl rfl, by rw [h99, pk_un (by omega)]; exact h7, by rw [h99, pk_un (by omega)]; exact h8, fun f hf => by rw [(hn 113 (by omega)).1]; exact h9 f hf, by rw [h99J]; exact h10, by rw [h99J]; exact h11⟩
-- behind does(): the deed is written, the board is yet to change
def DB (μ μ' : am_M) (σ : SG) : Prop := sP (fun b => b = 99 ∨ b = 109) μ μ' ∧ μ'.1 99 = upd (μ.1 99) 10 (nI ((sL σ).length + 1)) ∧ μ'.2 99 = μ.2 99 ∧ (∀ j, j < 18 → μ'.1 109 (18 * (sL σ).length + j) = nI (nowM σ j)) ∧ ∀ q, q < 18 * (sL σ).length → μ'.1 109 q = μ.1 109 q
theorem DB.done {μ μ1 μ2 : am_M} {σ : SG} {dd : Nat} (hd : DB μ μ1 σ) (h : MI μ σ) (hs : sP (fun b => b = 105) μ1 μ2) (hc : MR μ2 105 (doM dd (nowM σ))) : MI μ2 (gL σ (sL σ ++ [dd])) := by
  obtain ⟨d1, d2, d3, d4, d5⟩ := hd
  have g99 := hs 99 (by omega)
  have g109 := hs 109 (by omega)
  refine h.deed (((d1.wide (P' := fun b => b = 99 ∨ b = 105 ∨ b = 109) (fun b hb => by omega)).trans (hs.wide (fun b hb => Or.inr (Or.inl hb))))) (by rw [repM_app]; exact hc) ?_ ?_ ?_
  · rw [g99.1, d2, List.length_append]; rfl
  · rw [g99.2, d3]
  · intro n hn k hk
    rw [List.length_append] at hn
    rw [g109.1, Nat.zero_add]
    by_cases e : n = (sL σ).length
    · subst e
      rw [d4 k hk, List.take_left]; rfl
    · have hn' : n < (sL σ).length := by simp at hn; omega
      rw [d5 _ (by omega), List.take_append_of_le_length (by omega)]
      have := h.2.2.2.2.1 n hn' k hk
      rw [Nat.zero_add] at this
      exact this
section M5
variable {X : Nat × (Nat → Int32)} {d : Nat} {μ : am_M} {σ : SG} {a b i j n : Nat} {c : NF} {r x y z w : Int32}
theorem r_has10 {s : Nat} (hs : s < 1024) (hi : i < 10) : cp X (d + 1) kX8_has [.int (nI s), .int (nI i)] μ (qi (fun v μ' => μ' = μ ∧ v = nI (bN (s.testBit i)))) := by
  refine cp_of ok_X8_has (L := [.int (nI s), .int (nI i)]) rfl ?_
  refine tr_iload_n dX8_has_0 rfl ?_
  refine tr_iload_n dX8_has_1 rfl ?_
  refine tr_ishr dX8_has_2 ?_
  refine tr_iconst (v := nI 1) dX8_has_3 (by decide) ?_
  refine tr_iand dX8_has_4 ?_
  -- at 5: .iconst 1
  refine tr_v (bit10 _ hs i hi) ?_
  have hb : bN (s.testBit i) < 2 ^ 31 := by unfold bN; split <;> omega
  refine tr_iconst (v := nI 1) dX8_has_5 (by decide) ?_
  -- at 6: .if_icmp .ne 7
  refine tr_neN (tgt := 13) dX8_has_6 (by decide) (by omega) (by omega) (fun h1 => ?_) (fun h1 => ?_)
  · refine tr_iconst (v := nI 0) dX8_has_13 (by decide) ?_
    -- at 14: .ireturn
    refine tr_iret dX8_has_14 (by first | exact trivial | rfl) ⟨rfl, by cases e : s.testBit i with
      | false => rfl
      | true => rw [e] at h1; exact absurd rfl h1⟩
  · refine tr_iconst (v := nI 1) dX8_has_9 (by decide) ?_
    refine tr_goto (tgt := 14) dX8_has_10 (by decide) ?_
    -- at 14: .ireturn
    refine tr_iret dX8_has_14 (by first | exact trivial | rfl) ⟨rfl, by rw [h1]⟩
theorem r_readyTicks {kd : Nat} (hr : MR μ 105 c) (hw : wfc c) (hk : kd < 6) (hj : j < 7) : cp X (d + 2) kX8_readyTicks [.ref 99, .int (nI kd), .int (nI j)] μ (qi (fun v μ' => μ' = μ ∧ v = nI (dueM c j kd 8))) := by
  have k4 := hr (4 + j) (by omega)
  have k26 := hr (26 + j) (by omega)
  have k1 := hr 1 (by omega)
  obtain ⟨w4, w11, w19, w26⟩ := hw.2.2.2 j hj
  refine cp_of ok_X8_readyTicks (L := [.ref 99, .int (nI kd), .int (nI j), .float 0, .float 0]) rfl ?_
  refine tr_iconst (v := nI 0) dX8_readyTicks_0 (by decide) ?_
  refine tr_istore_n_3 dX8_readyTicks_1 (by decide) rfl ?_
  refine tr_iconst (v := nI 0) dX8_readyTicks_2 (by decide) ?_
  refine tr_istore_4 dX8_readyTicks_3 (by decide) rfl ?_
  -- at 5: .iload 4
  refine tw_for (n := 8) (Lf := fun k => [.ref 99, .int (nI kd), .int (nI j), .int (nI (dueM c j kd k)), .int (nI k)]) (P := fun k μ1 => μ1 = μ) (fun k μ1 hk' hP ih => ?_) (fun μ1 hP => ?_) 0 _ (by omega) rfl
  · subst hP
    have key : ∀ am : Bool, am = decide (c (4 + j) = c (26 + j)) → tw X (d + 1) kX8_readyTicks (qi (fun v μ' => μ' = μ1 ∧ v = nI (dueM c j kd 8))) 48 [.ref 99, .int (nI kd), .int (nI j), .int (nI (dueM c j kd k)), .int (nI k)] [.int (nI (bN am)), .int (nI (c 1 + k)), .int (nI kd), .int (nI (dueM c j kd k))] μ1 := by
      intro am ham
      have ih' := ih μ1 rfl
      have e1 : dueM c j kd (k + 1) = dueM c j kd k + bN (letM kd (c 1 + k) am) := by rw [dueM, ← ham]
      rw [e1] at ih'
      refine tr_Si (As := [_, _, _]) dX8_readyTicks_48 fm_RX8_118 rfl rfl (Nat.le_of_ble_eq_true rfl) (r_lets (d := d) hk) (fun v μ2 ⟨e1, e2⟩ => ?_)
      subst μ2; subst v
      refine tr_ifb0 (tgt := 58) dX8_readyTicks_51 (by decide) (fun h2 => ?_) (fun h2 => ?_)
      · rw [h2] at ih'
        refine tr_iconst (v := nI 0) dX8_readyTicks_58 (by decide) ?_
        first | with_reducible refine tr_iaddN dX8_readyTicks_59 ?_ | refine tr_iadd dX8_readyTicks_59 ?_
        refine tr_istore_n_3 dX8_readyTicks_60 (by decide) rfl ?_
        first | with_reducible refine tr_iincN_4 dX8_readyTicks_61 (by decide) rfl ?_ | refine tr_iinc_4 dX8_readyTicks_61 (by decide) rfl ?_
        refine tr_goto (tgt := 5) dX8_readyTicks_64 (by decide) ?_
        -- at 5: .iload 4
        exact ih'
      · rw [h2] at ih'
        refine tr_iconst (v := nI 1) dX8_readyTicks_54 (by decide) ?_
        refine tr_goto (tgt := 59) dX8_readyTicks_55 (by decide) ?_
        first | with_reducible refine tr_iaddN dX8_readyTicks_59 ?_ | refine tr_iadd dX8_readyTicks_59 ?_
        refine tr_istore_n_3 dX8_readyTicks_60 (by decide) rfl ?_
        first | with_reducible refine tr_iincN_4 dX8_readyTicks_61 (by decide) rfl ?_ | refine tr_iinc_4 dX8_readyTicks_61 (by decide) rfl ?_
        refine tr_goto (tgt := 5) dX8_readyTicks_64 (by decide) ?_
        -- at 5: .iload 4
        exact ih'
    refine tr_iload dX8_readyTicks_5 rfl ?_
    refine tr_bipush (v := nI 8) dX8_readyTicks_7 (by decide) ?_
    -- at 9: .if_icmp .ge 58
    refine tr_geN (tgt := 67) dX8_readyTicks_9 (by decide) (by omega) (by omega) (fun h1 => ?_) (fun h1 => ?_)
    · omega
    · refine tr_iload_n dX8_readyTicks_12 rfl ?_
      refine tr_iload_n dX8_readyTicks_13 rfl ?_
      refine tr_aload_n dX8_readyTicks_14 rfl ?_
      refine tr_getR dX8_readyTicks_15 fg_RX8_26 (by first | assumption | decide) (by first | assumption | rfl) rfl (by omega) ?_
      refine tr_iconst (v := nI 1) dX8_readyTicks_18 (by decide) ?_
      refine tr_iald dX8_readyTicks_19 (by first | assumption | decide) (by first | assumption | rfl) rfl (by omega) (by omega) (by first | assumption | rfl) ?_
      refine tr_iload dX8_readyTicks_20 rfl ?_
      first | with_reducible refine tr_iaddN dX8_readyTicks_22 ?_ | refine tr_iadd dX8_readyTicks_22 ?_
      refine tr_aload_n dX8_readyTicks_23 rfl ?_
      refine tr_getR dX8_readyTicks_24 fg_RX8_26 (by first | assumption | decide) (by first | assumption | rfl) rfl (by omega) ?_
      refine tr_iconst (v := nI 4) dX8_readyTicks_27 (by decide) ?_
      refine tr_iload_n dX8_readyTicks_28 rfl ?_
      first | with_reducible refine tr_iaddN dX8_readyTicks_29 ?_ | refine tr_iadd dX8_readyTicks_29 ?_
      refine tr_iald dX8_readyTicks_30 (by first | assumption | decide) (by first | assumption | rfl) rfl (by omega) (by omega) (by first | assumption | rfl) ?_
      refine tr_aload_n dX8_readyTicks_31 rfl ?_
      refine tr_getR dX8_readyTicks_32 fg_RX8_26 (by first | assumption | decide) (by first | assumption | rfl) rfl (by omega) ?_
      refine tr_bipush (v := nI 26) dX8_readyTicks_35 (by decide) ?_
      refine tr_iload_n dX8_readyTicks_37 rfl ?_
      first | with_reducible refine tr_iaddN dX8_readyTicks_38 ?_ | refine tr_iadd dX8_readyTicks_38 ?_
      refine tr_iald dX8_readyTicks_39 (by first | assumption | decide) (by first | assumption | rfl) rfl (by omega) (by omega) (by first | assumption | rfl) ?_
      -- at 40: .if_icmp .ne 7
      refine tr_neN (tgt := 47) dX8_readyTicks_40 (by decide) (by omega) (by omega) (fun h3 => ?_) (fun h3 => ?_)
      · refine tr_iconst (v := nI 0) dX8_readyTicks_47 (by decide) ?_
        -- at 48: .invokestatic 118
        exact key false (decide_eq_false h3).symm
      · refine tr_iconst (v := nI 1) dX8_readyTicks_43 (by decide) ?_
        refine tr_goto (tgt := 48) dX8_readyTicks_44 (by decide) ?_
        -- at 48: .invokestatic 118
        exact key true (decide_eq_true h3).symm
  · subst hP
    refine tr_iload dX8_readyTicks_5 rfl ?_
    refine tr_bipush (v := nI 8) dX8_readyTicks_7 (by decide) ?_
    -- at 9: .if_icmp .ge 58
    refine tr_geN (tgt := 67) dX8_readyTicks_9 (by decide) (by omega) (by omega) (fun h1 => ?_) (fun h1 => ?_)
    · refine tr_iload_n dX8_readyTicks_67 rfl ?_
      -- at 68: .ireturn
      refine tr_iret dX8_readyTicks_68 (by first | exact trivial | rfl) ⟨rfl, rfl⟩
    · omega
theorem r_never (hr : MR μ 105 c) (hw : wfc c) (hj : j < 7) : cp X (d + 3) kX8_neverShown [.ref 99, .int (nI j)] μ (qi (fun v μ' => μ' = μ ∧ v = nI (nevM (c (19 + j)) (c (11 + j)) (c (26 + j))))) := by
  have k11 := hr (11 + j) (by omega)
  have k19 := hr (19 + j) (by omega)
  have k26 := hr (26 + j) (by omega)
  obtain ⟨w4, w11, w19, w26⟩ := hw.2.2.2 j hj
  have e30 := seen_30 _ w19 _ w11 _ w26
  have hlt := seenM_lt (c (19 + j)) (c (11 + j)) (c (26 + j))
  refine cp_of ok_X8_neverShown (L := [.ref 99, .int (nI j), .float 0, .float 0, .float 0, .float 0]) rfl ?_
  refine tr_iconst (v := nI 1) dX8_neverShown_0 (by decide) ?_
  refine tr_istore_n_2 dX8_neverShown_1 (by decide) rfl ?_
  refine tr_iconst (v := nI 0) dX8_neverShown_2 (by decide) ?_
  refine tr_istore_n_3 dX8_neverShown_3 (by decide) rfl ?_
  refine tr_iconst (v := nI 0) dX8_neverShown_4 (by decide) ?_
  refine tr_istore_4 dX8_neverShown_5 (by decide) rfl ?_
  -- at 7: .iload 4
  generalize hkd : c (19 + j) = kd at *
  generalize hg : c (11 + j) = g at *
  generalize hmk : c (26 + j) = mk at *
  refine tw_for (n := 30) (Lf := fun k => [.ref 99, .int (nI j), .int (nI (seenM kd g mk k).2), .int (nI (seenM kd g mk k).1), .int (nI k), .float 0]) (P := fun k μ1 => μ1 = μ) (fun k μ1 hk hP ih => ?_) (fun μ1 hP => ?_) 0 _ (by omega) rfl
  · subst hP
    refine tr_iload dX8_neverShown_7 rfl ?_
    refine tr_bipush (v := nI 30) dX8_neverShown_9 (by decide) ?_
    -- at 11: .if_icmp .ge 47
    refine tr_geN (tgt := 58) dX8_neverShown_11 (by decide) (by omega) (by omega) (fun h1 => ?_) (fun h1 => ?_)
    · omega
    · refine tr_aload_n dX8_neverShown_14 rfl ?_
      refine tr_getR dX8_neverShown_15 fg_RX8_26 (by first | assumption | decide) (by first | assumption | rfl) rfl (by omega) ?_
      refine tr_bipush (v := nI 19) dX8_neverShown_18 (by decide) ?_
      refine tr_iload_n dX8_neverShown_20 rfl ?_
      first | with_reducible refine tr_iaddN dX8_neverShown_21 ?_ | refine tr_iadd dX8_neverShown_21 ?_
      refine tr_iald dX8_neverShown_22 (by first | assumption | decide) (by first | assumption | rfl) rfl (by omega) (by omega) (by first | assumption | rfl) ?_
      refine tr_iload_n dX8_neverShown_23 rfl ?_
      refine tr_aload_n dX8_neverShown_24 rfl ?_
      refine tr_getR dX8_neverShown_25 fg_RX8_26 (by first | assumption | decide) (by first | assumption | rfl) rfl (by omega) ?_
      refine tr_bipush (v := nI 11) dX8_neverShown_28 (by decide) ?_
      refine tr_iload_n dX8_neverShown_30 rfl ?_
      first | with_reducible refine tr_iaddN dX8_neverShown_31 ?_ | refine tr_iadd dX8_neverShown_31 ?_
      refine tr_iald dX8_neverShown_32 (by first | assumption | decide) (by first | assumption | rfl) rfl (by omega) (by omega) (by first | assumption | rfl) ?_
      refine tr_aload_n dX8_neverShown_33 rfl ?_
      refine tr_getR dX8_neverShown_34 fg_RX8_26 (by first | assumption | decide) (by first | assumption | rfl) rfl (by omega) ?_
      refine tr_bipush (v := nI 26) dX8_neverShown_37 (by decide) ?_
      refine tr_iload_n dX8_neverShown_39 rfl ?_
      first | with_reducible refine tr_iaddN dX8_neverShown_40 ?_ | refine tr_iadd dX8_neverShown_40 ?_
      refine tr_iald dX8_neverShown_41 (by first | assumption | decide) (by first | assumption | rfl) rfl (by omega) (by omega) (by first | assumption | rfl) ?_
      -- at 42: .invokestatic 122
      refine tr_Si (As := [_, _, _, _]) dX8_neverShown_42 fm_RX8_122 rfl rfl (Nat.le_of_ble_eq_true rfl) (r_turned (d := d) w19 (hlt k).1 w11 w26) (fun v μ2 ⟨e1, e2⟩ => ?_)
      subst μ2; subst v
      refine tr_istore_n_3 dX8_neverShown_45 (by decide) rfl ?_
      refine tr_iload_n dX8_neverShown_46 rfl ?_
      refine tr_iconst (v := nI 1) dX8_neverShown_47 (by decide) ?_
      refine tr_iload_n dX8_neverShown_48 rfl ?_
      refine tr_ishl dX8_neverShown_49 ?_
      refine tr_ior dX8_neverShown_50 ?_
      -- at 51: .istore_n 2
      refine tr_v (or_bit10 _ (trnM_lt _ _ _ _) _ (hlt k).2) ?_
      refine tr_istore_n_2 dX8_neverShown_51 (by decide) rfl ?_
      first | with_reducible refine tr_iincN_4 dX8_neverShown_52 (by decide) rfl ?_ | refine tr_iinc_4 dX8_neverShown_52 (by decide) rfl ?_
      refine tr_goto (tgt := 7) dX8_neverShown_55 (by decide) ?_
      -- at 7: .iload 4
      exact ih _ rfl
  · subst hP
    rw [e30]
    generalize (seenM kd g mk 30).1 = sh
    have hb := (hlt 10).2
    have en : nevM kd g mk = 10 - onesM 10 (seenM kd g mk 10).2 := rfl
    rw [en]
    generalize (seenM kd g mk 10).2 = b at hb ⊢
    refine tr_iload dX8_neverShown_7 rfl ?_
    refine tr_bipush (v := nI 30) dX8_neverShown_9 (by decide) ?_
    -- at 11: .if_icmp .ge 47
    refine tr_geN (tgt := 58) dX8_neverShown_11 (by decide) (by omega) (by omega) (fun h1 => ?_) (fun h1 => ?_)
    · refine tr_iconst (v := nI 0) dX8_neverShown_58 (by decide) ?_
      refine tr_istore_4 dX8_neverShown_59 (by decide) rfl ?_
      refine tr_iconst (v := nI 0) dX8_neverShown_61 (by decide) ?_
      refine tr_istore_5 dX8_neverShown_62 (by decide) rfl ?_
      -- at 64: .iload 5
      refine tw_for (n := 10) (Lf := fun k => [.ref 99, .int (nI j), .int (nI b), .int (nI sh), .int (nI (k - onesM k b)), .int (nI k)]) (P := fun k μ2 => μ2 = μ1) (fun k μ2 hk hP ih => ?_) (fun μ2 hP => ?_) 0 _ (by omega) rfl
      · subst hP
        have ih' := ih μ2 rfl
        have hle := ones_le k b
        have e1 : onesM (k + 1) b = onesM k b + (if b.testBit k = true then 1 else 0) := rfl
        rw [e1] at ih'
        refine tr_iload dX8_neverShown_64 rfl ?_
        refine tr_bipush (v := nI 10) dX8_neverShown_66 (by decide) ?_
        -- at 68: .if_icmp .ge 28
        refine tr_geN (tgt := 96) dX8_neverShown_68 (by decide) (by omega) (by omega) (fun h2 => ?_) (fun h2 => ?_)
        · omega
        · refine tr_iload dX8_neverShown_71 rfl ?_
          refine tr_iload_n dX8_neverShown_73 rfl ?_
          refine tr_iload dX8_neverShown_74 rfl ?_
          -- at 76: .invokestatic 137
          refine tr_Si (As := [_, _]) dX8_neverShown_76 fm_RX8_137 rfl rfl (Nat.le_of_ble_eq_true rfl) (r_has10 (d := d + 1) hb hk) (fun v μ3 ⟨e1, e2⟩ => ?_)
          subst μ3; subst v
          refine tr_ifb0 (tgt := 86) dX8_neverShown_79 (by decide) (fun h3 => ?_) (fun h3 => ?_)
          · rw [h3, if_neg (by decide), show k + 1 - (onesM k b + 0) = k - onesM k b + 1 by omega] at ih'
            refine tr_iconst (v := nI 1) dX8_neverShown_86 (by decide) ?_
            first | with_reducible refine tr_iaddN dX8_neverShown_87 ?_ | refine tr_iadd dX8_neverShown_87 ?_
            refine tr_istore_4 dX8_neverShown_88 (by decide) rfl ?_
            first | with_reducible refine tr_iincN_5 dX8_neverShown_90 (by decide) rfl ?_ | refine tr_iinc_5 dX8_neverShown_90 (by decide) rfl ?_
            refine tr_goto (tgt := 64) dX8_neverShown_93 (by decide) ?_
            -- at 64: .iload 5
            exact ih'
          · rw [h3, if_pos rfl, show k + 1 - (onesM k b + 1) = k - onesM k b + 0 by omega] at ih'
            refine tr_iconst (v := nI 0) dX8_neverShown_82 (by decide) ?_
            refine tr_goto (tgt := 87) dX8_neverShown_83 (by decide) ?_
            first | with_reducible refine tr_iaddN dX8_neverShown_87 ?_ | refine tr_iadd dX8_neverShown_87 ?_
            refine tr_istore_4 dX8_neverShown_88 (by decide) rfl ?_
            first | with_reducible refine tr_iincN_5 dX8_neverShown_90 (by decide) rfl ?_ | refine tr_iinc_5 dX8_neverShown_90 (by decide) rfl ?_
            refine tr_goto (tgt := 64) dX8_neverShown_93 (by decide) ?_
            -- at 64: .iload 5
            exact ih'
      · subst hP
        refine tr_iload dX8_neverShown_64 rfl ?_
        refine tr_bipush (v := nI 10) dX8_neverShown_66 (by decide) ?_
        -- at 68: .if_icmp .ge 28
        refine tr_geN (tgt := 96) dX8_neverShown_68 (by decide) (by omega) (by omega) (fun h2 => ?_) (fun h2 => ?_)
        · refine tr_iload dX8_neverShown_96 rfl ?_
          -- at 98: .ireturn
          refine tr_iret dX8_neverShown_98 (by first | exact trivial | rfl) ⟨rfl, rfl⟩
        · omega
    · omega
theorem r_drum (h : MI μ σ) (hW : WI σ) : cp X (d + 4) kX8_drum [.ref 99, .int r, .int x] μ (PM μ (S_drum σ r x)) := by
  have hw := hW.now
  have h7 := hw.1
  have hm := h.2.2.1
  refine cp_of ok_X8_drum (L := [.ref 99, .int r, .int x]) rfl ?_
  refine tr_aload_n dX8_drum_0 rfl ?_
  refine tr_iload_n dX8_drum_1 rfl ?_
  -- at 2: .invokevirtual 126
  refine tr_Vi (As := [_]) dX8_drum_2 fm_RX8_126 rfl rfl (by first | assumption | decide) (by first | assumption | rfl) (Nat.le_of_ble_eq_true rfl) (r_isDrum h h7) (fun v μ1 ⟨e1, e2⟩ => ?_)
  subst μ1; subst v
  cases hr : ixV r (nowM σ 18) with
  | none =>
    refine tr_ifb1 (tgt := 10) dX8_drum_5 (by decide) (fun h1 => ?_) (fun h1 => ?_)
    · cases h1
    · refine tr_iconst (v := -1) dX8_drum_8 (by decide) ?_
      exact tr_iret dX8_drum_9 (by first | exact trivial | rfl) (pm_same h (by simp only [S_drum, hr]))
  | some j =>
    obtain ⟨rfl, hj⟩ := ixV_some (by omega) hr
    have hj7 : j < 7 := by omega
    have k3 := hm 3 (by omega)
    have k4 := hm (4 + j) (by omega)
    have k11 := hm (11 + j) (by omega)
    have k19 := hm (19 + j) (by omega)
    have k26 := hm (26 + j) (by omega)
    refine tr_ifb1 (tgt := 10) dX8_drum_5 (by decide) (fun h1 => ?_) (fun h1 => ?_)
    · refine tr_iload_n dX8_drum_10 rfl ?_
      -- at 11: .tableswitch 145 0 6 #[41, 55, 68, 82, 96, 111, 132]
      cases hx : ixV x 7 with
      | none =>
        refine tr_tableOut (tgt := 156) dX8_drum_11 ?_ (by decide) ?_
        · exact ix_out (n := 6) (by omega) hx
        · refine tr_iconst (v := -1) dX8_drum_156 (by decide) ?_
          exact tr_iret dX8_drum_157 (by first | exact trivial | rfl) (pm_same h (by simp only [S_drum, hr, hx]))
      | some q =>
        obtain ⟨rfl, hq⟩ := ixV_some (by omega) hx
        have eS : S_drum σ (nI j) (nI q) = (1, gA σ (nI (dfM (nowM σ) j q))) := by simp only [S_drum, hr, hx]
        rw [eS]
        have hk : q = 0 ∨ q = 1 ∨ q = 2 ∨ q = 3 ∨ q = 4 ∨ q = 5 ∨ q = 6 := by omega
        rcases hk with rfl | rfl | rfl | rfl | rfl | rfl | rfl
        · refine tr_tableIn (off := 41) (tgt := 52) dX8_drum_11 (by decide) (by decide) (by decide) (by decide) ?_
          refine tr_aload_n dX8_drum_52 rfl ?_
          refine tr_aload_n dX8_drum_53 rfl ?_
          refine tr_getR dX8_drum_54 fg_RX8_26 (by first | assumption | decide) (by first | assumption | rfl) rfl (by omega) ?_
          refine tr_bipush (v := nI 19) dX8_drum_57 (by decide) ?_
          refine tr_iload_n dX8_drum_59 rfl ?_
          first | with_reducible refine tr_iaddN dX8_drum_60 ?_ | refine tr_iadd dX8_drum_60 ?_
          refine tr_iald dX8_drum_61 (by first | assumption | decide) (by first | assumption | rfl) rfl (by omega) (by omega) (by first | assumption | rfl) ?_
          -- at 62: .invokevirtual 89
          refine tr_Vi (As := [_]) dX8_drum_62 fm_RX8_89 rfl rfl (by first | assumption | decide) (by first | assumption | rfl) (Nat.le_of_ble_eq_true rfl) (r_tells h) (fun v μ1 ⟨e1, e2, e3⟩ => ?_)
          refine tr_iret dX8_drum_65 (by first | exact trivial | rfl) ⟨e1, e2, e3⟩
        · refine tr_tableIn (off := 55) (tgt := 66) dX8_drum_11 (by decide) (by decide) (by decide) (by decide) ?_
          refine tr_aload_n dX8_drum_66 rfl ?_
          refine tr_aload_n dX8_drum_67 rfl ?_
          refine tr_getR dX8_drum_68 fg_RX8_26 (by first | assumption | decide) (by first | assumption | rfl) rfl (by omega) ?_
          refine tr_iconst (v := nI 4) dX8_drum_71 (by decide) ?_
          refine tr_iload_n dX8_drum_72 rfl ?_
          first | with_reducible refine tr_iaddN dX8_drum_73 ?_ | refine tr_iadd dX8_drum_73 ?_
          refine tr_iald dX8_drum_74 (by first | assumption | decide) (by first | assumption | rfl) rfl (by omega) (by omega) (by first | assumption | rfl) ?_
          -- at 75: .invokevirtual 89
          refine tr_Vi (As := [_]) dX8_drum_75 fm_RX8_89 rfl rfl (by first | assumption | decide) (by first | assumption | rfl) (Nat.le_of_ble_eq_true rfl) (r_tells h) (fun v μ1 ⟨e1, e2, e3⟩ => ?_)
          refine tr_iret dX8_drum_78 (by first | exact trivial | rfl) ⟨e1, e2, e3⟩
        · refine tr_tableIn (off := 68) (tgt := 79) dX8_drum_11 (by decide) (by decide) (by decide) (by decide) ?_
          refine tr_aload_n dX8_drum_79 rfl ?_
          refine tr_aload_n dX8_drum_80 rfl ?_
          refine tr_getR dX8_drum_81 fg_RX8_26 (by first | assumption | decide) (by first | assumption | rfl) rfl (by omega) ?_
          refine tr_bipush (v := nI 11) dX8_drum_84 (by decide) ?_
          refine tr_iload_n dX8_drum_86 rfl ?_
          first | with_reducible refine tr_iaddN dX8_drum_87 ?_ | refine tr_iadd dX8_drum_87 ?_
          refine tr_iald dX8_drum_88 (by first | assumption | decide) (by first | assumption | rfl) rfl (by omega) (by omega) (by first | assumption | rfl) ?_
          -- at 89: .invokevirtual 89
          refine tr_Vi (As := [_]) dX8_drum_89 fm_RX8_89 rfl rfl (by first | assumption | decide) (by first | assumption | rfl) (Nat.le_of_ble_eq_true rfl) (r_tells h) (fun v μ1 ⟨e1, e2, e3⟩ => ?_)
          refine tr_iret dX8_drum_92 (by first | exact trivial | rfl) ⟨e1, e2, e3⟩
        · refine tr_tableIn (off := 82) (tgt := 93) dX8_drum_11 (by decide) (by decide) (by decide) (by decide) ?_
          refine tr_aload_n dX8_drum_93 rfl ?_
          refine tr_aload_n dX8_drum_94 rfl ?_
          refine tr_getR dX8_drum_95 fg_RX8_26 (by first | assumption | decide) (by first | assumption | rfl) rfl (by omega) ?_
          refine tr_bipush (v := nI 26) dX8_drum_98 (by decide) ?_
          refine tr_iload_n dX8_drum_100 rfl ?_
          first | with_reducible refine tr_iaddN dX8_drum_101 ?_ | refine tr_iadd dX8_drum_101 ?_
          refine tr_iald dX8_drum_102 (by first | assumption | decide) (by first | assumption | rfl) rfl (by omega) (by omega) (by first | assumption | rfl) ?_
          -- at 103: .invokevirtual 89
          refine tr_Vi (As := [_]) dX8_drum_103 fm_RX8_89 rfl rfl (by first | assumption | decide) (by first | assumption | rfl) (Nat.le_of_ble_eq_true rfl) (r_tells h) (fun v μ1 ⟨e1, e2, e3⟩ => ?_)
          refine tr_iret dX8_drum_106 (by first | exact trivial | rfl) ⟨e1, e2, e3⟩
        · refine tr_tableIn (off := 96) (tgt := 107) dX8_drum_11 (by decide) (by decide) (by decide) (by decide) ?_
          refine tr_aload_n dX8_drum_107 rfl ?_
          refine tr_aload_n dX8_drum_108 rfl ?_
          refine tr_getR dX8_drum_109 fg_RX8_26 (by first | assumption | decide) (by first | assumption | rfl) rfl (by omega) ?_
          refine tr_iconst (v := nI 3) dX8_drum_112 (by decide) ?_
          refine tr_iald dX8_drum_113 (by first | assumption | decide) (by first | assumption | rfl) rfl (by omega) (by omega) (by first | assumption | rfl) ?_
          refine tr_iload_n dX8_drum_114 rfl ?_
          refine tr_ishr dX8_drum_115 ?_
          refine tr_iconst (v := nI 1) dX8_drum_116 (by decide) ?_
          refine tr_iand dX8_drum_117 ?_
          -- at 118: .invokevirtual 89
          refine tr_v (jam_bit _ hw.jam j hj7) ?_
          refine tr_Vi (As := [_]) dX8_drum_118 fm_RX8_89 rfl rfl (by first | assumption | decide) (by first | assumption | rfl) (Nat.le_of_ble_eq_true rfl) (r_tells h) (fun v μ1 ⟨e1, e2, e3⟩ => ?_)
          refine tr_iret dX8_drum_121 (by first | exact trivial | rfl) ⟨e1, e2, e3⟩
        · refine tr_tableIn (off := 111) (tgt := 122) dX8_drum_11 (by decide) (by decide) (by decide) (by decide) ?_
          refine tr_aload_n dX8_drum_122 rfl ?_
          refine tr_aload_n dX8_drum_123 rfl ?_
          refine tr_getR dX8_drum_124 fg_RX8_26 (by first | assumption | decide) (by first | assumption | rfl) rfl (by omega) ?_
          refine tr_iload_n dX8_drum_127 rfl ?_
          -- at 128: .invokestatic 129
          refine tr_Si (As := [_, _]) dX8_drum_128 fm_RX8_129 rfl rfl (Nat.le_of_ble_eq_true rfl) (r_isReady (d := d + 1) isA_105 hm hw hj7) (fun v μ1 ⟨e1, e2⟩ => ?_)
          subst μ1; subst v
          have e5 : dfM (nowM σ) j 5 = bN (rdyM (nowM σ) j) := rfl
          rw [e5]
          refine tr_ifb0 (tgt := 138) dX8_drum_131 (by decide) (fun h2 => ?_) (fun h2 => ?_)
          · rw [h2]
            refine tr_iconst (v := nI 0) dX8_drum_138 (by decide) ?_
            -- at 139: .invokevirtual 89
            refine tr_Vi (As := [_]) dX8_drum_139 fm_RX8_89 rfl rfl (by first | assumption | decide) (by first | assumption | rfl) (Nat.le_of_ble_eq_true rfl) (r_tells h) (fun v μ1 ⟨e1, e2, e3⟩ => ?_)
            refine tr_iret dX8_drum_142 (by first | exact trivial | rfl) ⟨e1, e2, e3⟩
          · rw [h2]
            refine tr_iconst (v := nI 1) dX8_drum_134 (by decide) ?_
            refine tr_goto (tgt := 139) dX8_drum_135 (by decide) ?_
            -- at 139: .invokevirtual 89
            refine tr_Vi (As := [_]) dX8_drum_139 fm_RX8_89 rfl rfl (by first | assumption | decide) (by first | assumption | rfl) (Nat.le_of_ble_eq_true rfl) (r_tells h) (fun v μ1 ⟨e1, e2, e3⟩ => ?_)
            refine tr_iret dX8_drum_142 (by first | exact trivial | rfl) ⟨e1, e2, e3⟩
        · refine tr_tableIn (off := 132) (tgt := 143) dX8_drum_11 (by decide) (by decide) (by decide) (by decide) ?_
          refine tr_aload_n dX8_drum_143 rfl ?_
          refine tr_aload_n dX8_drum_144 rfl ?_
          refine tr_getR dX8_drum_145 fg_RX8_26 (by first | assumption | decide) (by first | assumption | rfl) rfl (by omega) ?_
          refine tr_iload_n dX8_drum_148 rfl ?_
          -- at 149: .invokestatic 133
          refine tr_Si (As := [_, _]) dX8_drum_149 fm_RX8_133 rfl rfl (Nat.le_of_ble_eq_true rfl) (r_next (d := d) isA_105 hm hw hj7) (fun v μ1 ⟨e1, e2⟩ => ?_)
          subst μ1; subst v
          refine tr_Vi (As := [_]) dX8_drum_152 fm_RX8_89 rfl rfl (by first | assumption | decide) (by first | assumption | rfl) (Nat.le_of_ble_eq_true rfl) (r_tells h) (fun v μ1 ⟨e1, e2, e3⟩ => ?_)
          refine tr_iret dX8_drum_155 (by first | exact trivial | rfl) ⟨e1, e2, e3⟩
    · cases h1
theorem r_mark (h : MI μ σ) (hW : WI σ) : cp X (d + 4) kX8_mark [.ref 99, .int r, .int x] μ (PM μ (S_mark σ r x)) := by
  have hw := hW.now
  have h7 := hw.1
  have hm := h.2.2.1
  refine cp_of ok_X8_mark (L := [.ref 99, .int r, .int x, .float 0]) rfl ?_
  refine tr_aload_n dX8_mark_0 rfl ?_
  refine tr_iload_n dX8_mark_1 rfl ?_
  -- at 2: .invokevirtual 126
  refine tr_Vi (As := [_]) dX8_mark_2 fm_RX8_126 rfl rfl (by first | assumption | decide) (by first | assumption | rfl) (Nat.le_of_ble_eq_true rfl) (r_isDrum h h7) (fun v μ1 ⟨e1, e2⟩ => ?_)
  subst μ1; subst v
  cases hr : ixV r (nowM σ 18) with
  | none =>
    refine tr_ifb0 (tgt := 17) dX8_mark_5 (by decide) (fun h1 => ?_) (fun h1 => ?_)
    · refine tr_iconst (v := -1) dX8_mark_17 (by decide) ?_
      exact tr_iret dX8_mark_18 (by first | exact trivial | rfl) (pm_same h (by simp only [S_mark, hr]))
    · cases h1
  | some j =>
    obtain ⟨rfl, hj⟩ := ixV_some (by omega) hr
    have hj7 : j < 7 := by omega
    have k4 := hm (4 + j) (by omega)
    have k11 := hm (11 + j) (by omega)
    have k19 := hm (19 + j) (by omega)
    have k26 := hm (26 + j) (by omega)
    obtain ⟨w4, w11, w19, w26⟩ := hw.2.2.2 j hj7
    refine tr_ifb0 (tgt := 17) dX8_mark_5 (by decide) (fun h1 => ?_) (fun h1 => ?_)
    · cases h1
    · refine tr_iload_n dX8_mark_8 rfl ?_
      refine tr_iconst (v := nI 1) dX8_mark_9 (by decide) ?_
      refine tr_iconst (v := nI 5) dX8_mark_10 (by decide) ?_
      -- at 11: .invokestatic 73
      refine tr_Si (As := [_, _, _]) dX8_mark_11 fm_RX8_73 rfl rfl (Nat.le_of_ble_eq_true rfl) (r_in) (fun v μ1 ⟨e1, e2⟩ => ?_)
      subst μ1; subst v
      rw [in_p1 x (by omega)]
      cases hx : ixV x 6 with
      | none =>
        refine tr_ifb1 (tgt := 19) dX8_mark_14 (by decide) (fun h2 => ?_) (fun h2 => ?_)
        · cases h2
        · refine tr_iconst (v := -1) dX8_mark_17 (by decide) ?_
          exact tr_iret dX8_mark_18 (by first | exact trivial | rfl) (pm_same h (by simp only [S_mark, hr, hx]))
      | some q =>
        obtain ⟨rfl, hq⟩ := ixV_some (by omega) hx
        refine tr_ifb1 (tgt := 19) dX8_mark_14 (by decide) (fun h2 => ?_) (fun h2 => ?_)
        · have hq0 : q ≠ 0 := of_decide_eq_true h2
          refine tr_aload_n dX8_mark_19 rfl ?_
          refine tr_getR dX8_mark_20 fg_RX8_26 (by first | assumption | decide) (by first | assumption | rfl) rfl (by omega) ?_
          refine tr_bipush (v := nI 19) dX8_mark_23 (by decide) ?_
          refine tr_iload_n dX8_mark_25 rfl ?_
          first | with_reducible refine tr_iaddN dX8_mark_26 ?_ | refine tr_iadd dX8_mark_26 ?_
          refine tr_iald dX8_mark_27 (by first | assumption | decide) (by first | assumption | rfl) rfl (by omega) (by omega) (by first | assumption | rfl) ?_
          refine tr_istore_n_3 dX8_mark_28 (by decide) rfl ?_
          refine tr_iload_n dX8_mark_29 rfl ?_
          refine tr_iload_n dX8_mark_30 rfl ?_
          -- at 31: .invokestatic 141
          refine tr_Si (As := [_, _]) dX8_mark_31 fm_RX8_141 rfl rfl (Nat.le_of_ble_eq_true rfl) (r_is w19 hq) (fun v μ1 ⟨e1, e2⟩ => ?_)
          subst μ1; subst v
          refine tr_ifb1 (tgt := 43) dX8_mark_34 (by decide) (fun h4 => ?_) (fun h4 => ?_)
          · have e : S_mark σ (nI j) (nI q) = (mkM (nowM σ) j q, σ) := by
              simp only [S_mark, hr, hx]
              rw [if_neg hq0, if_pos h4]
            rw [e]
            refine tr_iload_n dX8_mark_43 rfl ?_
            -- at 44: .tableswitch 84 1 4 #[32, 39, 45, 70]
            have hk : q = 1 ∨ q = 2 ∨ q = 3 ∨ q = 4 ∨ q = 5 := by omega
            rcases hk with rfl | rfl | rfl | rfl | rfl
            · refine tr_tableIn (off := 32) (tgt := 76) dX8_mark_44 (by decide) (by decide) (by decide) (by decide) ?_
              refine tr_aload_n dX8_mark_76 rfl ?_
              refine tr_iload_n dX8_mark_77 rfl ?_
              refine tr_iload_n dX8_mark_78 rfl ?_
              -- at 79: .invokevirtual 144
              refine tr_Vi (As := [_, _]) dX8_mark_79 fm_RX8_144 rfl rfl (by first | assumption | decide) (by first | assumption | rfl) (Nat.le_of_ble_eq_true rfl) (r_readyTicks hm hw w19 hj7) (fun v μ1 ⟨e1, e2⟩ => ?_)
              subst μ1; subst v
              exact tr_iret dX8_mark_82 (by first | exact trivial | rfl) (pm_same h (by rw [mkM, if_pos rfl]))
            · refine tr_tableIn (off := 39) (tgt := 83) dX8_mark_44 (by decide) (by decide) (by decide) (by decide) ?_
              refine tr_aload_n dX8_mark_83 rfl ?_
              refine tr_iload_n dX8_mark_84 rfl ?_
              -- at 85: .invokevirtual 147
              refine tr_Vi (As := [_]) dX8_mark_85 fm_RX8_147 rfl rfl (by first | assumption | decide) (by first | assumption | rfl) (Nat.le_of_ble_eq_true rfl) (r_never hm hw hj7) (fun v μ1 ⟨e1, e2⟩ => ?_)
              subst μ1; subst v
              exact tr_iret dX8_mark_88 (by first | exact trivial | rfl) (pm_same h (by rw [mkM, if_neg (by omega), if_pos rfl]))
            · refine tr_tableIn (off := 45) (tgt := 89) dX8_mark_44 (by decide) (by decide) (by decide) (by decide) ?_
              refine tr_aload_n dX8_mark_89 rfl ?_
              refine tr_getR dX8_mark_90 fg_RX8_26 (by first | assumption | decide) (by first | assumption | rfl) rfl (by omega) ?_
              refine tr_iconst (v := nI 4) dX8_mark_93 (by decide) ?_
              refine tr_iload_n dX8_mark_94 rfl ?_
              first | with_reducible refine tr_iaddN dX8_mark_95 ?_ | refine tr_iadd dX8_mark_95 ?_
              refine tr_iald dX8_mark_96 (by first | assumption | decide) (by first | assumption | rfl) rfl (by omega) (by omega) (by first | assumption | rfl) ?_
              refine tr_aload_n dX8_mark_97 rfl ?_
              refine tr_getR dX8_mark_98 fg_RX8_26 (by first | assumption | decide) (by first | assumption | rfl) rfl (by omega) ?_
              refine tr_bipush (v := nI 11) dX8_mark_101 (by decide) ?_
              refine tr_iload_n dX8_mark_103 rfl ?_
              first | with_reducible refine tr_iaddN dX8_mark_104 ?_ | refine tr_iadd dX8_mark_104 ?_
              refine tr_iald dX8_mark_105 (by first | assumption | decide) (by first | assumption | rfl) rfl (by omega) (by omega) (by first | assumption | rfl) ?_
              -- at 106: .isub
              refine tr_isub dX8_mark_106 ?_
              refine tr_bipush (v := nI 10) dX8_mark_107 (by decide) ?_
              -- at 109: .iadd
              refine tr_iadd dX8_mark_109 ?_
              refine tr_bipush (v := nI 10) dX8_mark_110 (by decide) ?_
              -- at 112: .irem
              refine tr_irem dX8_mark_112 (by decide) ?_
              refine tr_v (mod10 _ w4 _ w11) ?_
              exact tr_iret dX8_mark_113 (by first | exact trivial | rfl) (pm_same h (by rw [mkM, if_neg (by omega), if_neg (by omega), if_pos rfl]))
            · refine tr_tableIn (off := 70) (tgt := 114) dX8_mark_44 (by decide) (by decide) (by decide) (by decide) ?_
              refine tr_aload_n dX8_mark_114 rfl ?_
              refine tr_iconst (v := nI 1) dX8_mark_115 (by decide) ?_
              refine tr_iload_n dX8_mark_116 rfl ?_
              -- at 117: .invokevirtual 144
              refine tr_Vi (As := [_, _]) dX8_mark_117 fm_RX8_144 rfl rfl (by first | assumption | decide) (by first | assumption | rfl) (Nat.le_of_ble_eq_true rfl) (r_readyTicks hm hw (by omega) hj7) (fun v μ1 ⟨e1, e2⟩ => ?_)
              subst μ1; subst v
              refine tr_aload_n dX8_mark_120 rfl ?_
              refine tr_iconst (v := nI 4) dX8_mark_121 (by decide) ?_
              refine tr_iload_n dX8_mark_122 rfl ?_
              -- at 123: .invokevirtual 144
              refine tr_Vi (As := [_, _]) dX8_mark_123 fm_RX8_144 rfl rfl (by first | assumption | decide) (by first | assumption | rfl) (Nat.le_of_ble_eq_true rfl) (r_readyTicks hm hw (by omega) hj7) (fun v μ1 ⟨e1, e2⟩ => ?_)
              subst μ1; subst v
              refine tr_isub dX8_mark_126 ?_
              exact tr_iret dX8_mark_127 (by first | exact trivial | rfl) (pm_same h (by rw [mkM, if_neg (by omega), if_neg (by omega), if_neg (by omega), if_pos rfl]))
            · refine tr_tableOut (tgt := 128) dX8_mark_44 (by decide) (by decide) ?_
              refine tr_aload_n dX8_mark_128 rfl ?_
              refine tr_getR dX8_mark_129 fg_RX8_26 (by first | assumption | decide) (by first | assumption | rfl) rfl (by omega) ?_
              refine tr_iload_n dX8_mark_132 rfl ?_
              -- at 133: .invokestatic 133
              refine tr_Si (As := [_, _]) dX8_mark_133 fm_RX8_133 rfl rfl (Nat.le_of_ble_eq_true rfl) (r_next isA_105 hm hw hj7) (fun v μ1 ⟨e1, e2⟩ => ?_)
              subst μ1; subst v
              refine tr_aload_n dX8_mark_136 rfl ?_
              refine tr_getR dX8_mark_137 fg_RX8_26 (by first | assumption | decide) (by first | assumption | rfl) rfl (by omega) ?_
              refine tr_iconst (v := nI 4) dX8_mark_140 (by decide) ?_
              refine tr_iload_n dX8_mark_141 rfl ?_
              first | with_reducible refine tr_iaddN dX8_mark_142 ?_ | refine tr_iadd dX8_mark_142 ?_
              refine tr_iald dX8_mark_143 (by first | assumption | decide) (by first | assumption | rfl) rfl (by omega) (by omega) (by first | assumption | rfl) ?_
              -- at 144: .isub
              refine tr_isub dX8_mark_144 ?_
              refine tr_bipush (v := nI 10) dX8_mark_145 (by decide) ?_
              -- at 147: .iadd
              refine tr_iadd dX8_mark_147 ?_
              refine tr_bipush (v := nI 10) dX8_mark_148 (by decide) ?_
              -- at 150: .irem
              refine tr_irem dX8_mark_150 (by decide) ?_
              refine tr_v (mod10 _ (trnM_lt _ _ _ _) _ w4) ?_
              exact tr_iret dX8_mark_151 (by first | exact trivial | rfl) (pm_same h (by rw [mkM, if_neg (by omega), if_neg (by omega), if_neg (by omega), if_neg (by omega)]; rfl))
          · refine tr_aload_n dX8_mark_37 rfl ?_
            refine tr_iconst (v := nI 3) dX8_mark_38 (by decide) ?_
            refine tr_Vi (As := [_]) dX8_mark_39 fm_RX8_81 rfl rfl (by first | assumption | decide) (by first | assumption | rfl) (Nat.le_of_ble_eq_true rfl) (r_finds (k := 3) (by omega) h) (fun v μ1 ⟨e1, e2, e3⟩ => ?_)
            exact tr_iret dX8_mark_42 (by first | exact trivial | rfl) (pm_e (by simp only [S_mark, hr, hx]; rw [if_neg hq0, if_neg (by rw [h4]; decide)]) e1 e2 e3)
        · have hq0 : q = 0 := Decidable.not_not.mp (of_decide_eq_false h2)
          refine tr_iconst (v := -1) dX8_mark_17 (by decide) ?_
          exact tr_iret dX8_mark_18 (by first | exact trivial | rfl) (pm_same h (by simp only [S_mark, hr, hx]; rw [if_pos hq0]))
theorem r_does (h : MI μ σ) (hl : (sL σ).length < 40) : cp X (d + 1) kX8_does [.ref 99] μ (qv (fun μ' => DB μ μ' σ)) := by
  have hm := h.2.2.1
  have h10 := h.2.2.2.1
  refine cp_of ok_X8_does (L := [.ref 99, .float 0]) rfl ?_
  refine tr_iconst (v := nI 0) dX8_does_0 (by decide) ?_
  refine tr_istore_n_1 dX8_does_1 (by decide) rfl ?_
  -- at 2: .iload_n 1
  refine tw_for (n := 18) (Lf := fun k => [.ref 99, .int (nI k)]) (P := fun k μ1 => sP (fun b => b = 109) μ μ1 ∧ (∀ j, j < k → μ1.1 109 (18 * (sL σ).length + j) = nI (nowM σ j)) ∧ ∀ q, q < 18 * (sL σ).length → μ1.1 109 q = μ.1 109 q) (fun k μ1 hk hP ih => ?_) (fun μ1 hP => ?_) 0 _ (by omega) ⟨sP.rf _ μ, fun j hj => by omega, fun q hq => rfl⟩
  · obtain ⟨p1, p2, p3⟩ := hP
    have g10 : μ1.1 99 10 = nI (sL σ).length := by rw [(p1 99 (by omega)).1]; exact h10
    have gk : μ1.1 105 k = nI (nowM σ k) := by rw [(p1 105 (by omega)).1]; exact hm k (by omega)
    refine tr_iload_n dX8_does_2 rfl ?_
    refine tr_bipush (v := nI 18) dX8_does_3 (by decide) ?_
    -- at 5: .if_icmp .ge 29
    refine tr_geN (tgt := 34) dX8_does_5 (by decide) (by omega) (by omega) (fun h1 => ?_) (fun h1 => ?_)
    · omega
    · refine tr_aload_n dX8_does_8 rfl ?_
      refine tr_getR dX8_does_9 fg_RX8_38 (by first | assumption | decide) (by first | assumption | rfl) rfl (by omega) ?_
      refine tr_bipush (v := nI 18) dX8_does_12 (by decide) ?_
      refine tr_aload_n dX8_does_14 rfl ?_
      refine tr_getI dX8_does_15 fg_RX8_111 (by first | assumption | decide) (by first | assumption | rfl) rfl (by first | assumption | rfl) ?_
      first | with_reducible refine tr_imulN dX8_does_18 ?_ | refine tr_imul dX8_does_18 ?_
      refine tr_iload_n dX8_does_19 rfl ?_
      first | with_reducible refine tr_iaddN dX8_does_20 ?_ | refine tr_iadd dX8_does_20 ?_
      refine tr_aload_n dX8_does_21 rfl ?_
      refine tr_getR dX8_does_22 fg_RX8_26 (by first | assumption | decide) (by first | assumption | rfl) rfl (by omega) ?_
      refine tr_iload_n dX8_does_25 rfl ?_
      refine tr_iald dX8_does_26 (by first | assumption | decide) (by first | assumption | rfl) rfl (by omega) (by omega) (by first | assumption | rfl) ?_
      refine tr_iast dX8_does_27 (by first | assumption | decide) (by first | assumption | rfl) rfl (by omega) (by omega) ?_
      first | with_reducible refine tr_iincN_1 dX8_does_28 (by decide) rfl ?_ | refine tr_iinc_1 dX8_does_28 (by decide) rfl ?_
      refine tr_goto (tgt := 2) dX8_does_31 (by decide) ?_
      -- at 2: .iload_n 1
      refine ih _ ⟨p1.put _ rfl, fun j hj => ?_, fun q hq => ?_⟩
      · rw [sI_same]
        by_cases e : j = k
        · subst e; rw [pk_us]
        · rw [pk_un (by omega)]; exact p2 j (by omega)
      · rw [sI_same, pk_un (by omega)]; exact p3 q hq
  · obtain ⟨p1, p2, p3⟩ := hP
    have g10 : μ1.1 99 10 = nI (sL σ).length := by rw [(p1 99 (by omega)).1]; exact h10
    refine tr_iload_n dX8_does_2 rfl ?_
    refine tr_bipush (v := nI 18) dX8_does_3 (by decide) ?_
    -- at 5: .if_icmp .ge 29
    refine tr_geN (tgt := 34) dX8_does_5 (by decide) (by omega) (by omega) (fun h1 => ?_) (fun h1 => ?_)
    · refine tr_aload_n dX8_does_34 rfl ?_
      refine tr_dup dX8_does_35 rfl ?_
      refine tr_getI dX8_does_36 fg_RX8_111 (by first | assumption | decide) (by first | assumption | rfl) rfl (by first | assumption | rfl) ?_
      refine tr_iconst (v := nI 1) dX8_does_39 (by decide) ?_
      first | with_reducible refine tr_iaddN dX8_does_40 ?_ | refine tr_iadd dX8_does_40 ?_
      refine tr_putI dX8_does_41 fp_RX8_111 (by first | assumption | decide) (by first | assumption | rfl) rfl ?_
      -- at 44: .return_
      refine tr_vret dX8_does_44 (by first | exact trivial | rfl) ⟨(p1.wide (fun b hb => Or.inr hb)).put _ (Or.inl rfl), by rw [sI_same, (p1 99 (by omega)).1], (p1 99 (by omega)).2, fun j hj => by rw [sI_ne _ _ (by omega)]; exact p2 j hj, fun q hq => by rw [sI_ne _ _ (by omega)]; exact p3 q hq⟩
    · omega
theorem r_tick (h : MI μ σ) (hW : WI σ) : cp X (d + 5) kX8_tick [.ref 99] μ (PM μ (S_tick σ)) := by
  have hw := hW.now
  have h7 := hw.1
  have hm := h.2.2.1
  have h10 := h.2.2.2.1
  have ht := hW.tick
  have hl := hW.2.2.1.1
  have k18 := hm 18 (by omega)
  have k1 := hm 1 (by omega)
  refine cp_of ok_X8_tick (L := [.ref 99]) rfl ?_
  refine tr_aload_n dX8_tick_0 rfl ?_
  refine tr_getR dX8_tick_1 fg_RX8_26 (by first | assumption | decide) (by first | assumption | rfl) rfl (by omega) ?_
  refine tr_bipush (v := nI 18) dX8_tick_4 (by decide) ?_
  refine tr_iald dX8_tick_6 (by first | assumption | decide) (by first | assumption | rfl) rfl (by omega) (by omega) (by first | assumption | rfl) ?_
  -- at 7: .ifCond .eq 14
  refine tr_if0N (tgt := 21) dX8_tick_7 (by decide) (by omega) (fun h1 => ?_) (fun h1 => ?_)
  · refine tr_bipush (v := -4) dX8_tick_21 (by decide) ?_
    exact tr_iret dX8_tick_23 (by first | exact trivial | rfl) (pm_same h (by rw [S_tick, if_pos (Or.inl h1)]))
  · refine tr_aload_n dX8_tick_10 rfl ?_
    refine tr_getR dX8_tick_11 fg_RX8_26 (by first | assumption | decide) (by first | assumption | rfl) rfl (by omega) ?_
    refine tr_iconst (v := nI 1) dX8_tick_14 (by decide) ?_
    refine tr_iald dX8_tick_15 (by first | assumption | decide) (by first | assumption | rfl) rfl (by omega) (by omega) (by first | assumption | rfl) ?_
    refine tr_bipush (v := nI 99) dX8_tick_16 (by decide) ?_
    -- at 18: .if_icmp .ne 6
    refine tr_neN (tgt := 24) dX8_tick_18 (by decide) (by omega) (by omega) (fun h2 => ?_) (fun h2 => ?_)
    · refine tr_aload_n dX8_tick_24 rfl ?_
      refine tr_getI dX8_tick_25 fg_RX8_111 (by first | assumption | decide) (by first | assumption | rfl) rfl (by first | assumption | rfl) ?_
      refine tr_bipush (v := nI 40) dX8_tick_28 (by decide) ?_
      -- at 30: .if_icmp .ne 6
      refine tr_neN (tgt := 36) dX8_tick_30 (by decide) (by omega) (by omega) (fun h3 => ?_) (fun h3 => ?_)
      · refine tr_aload_n dX8_tick_36 rfl ?_
        -- at 37: .invokevirtual 150
        refine tr_Vv (As := []) dX8_tick_37 fm_RX8_150 rfl rfl (by first | assumption | decide) (by first | assumption | rfl) (Nat.le_of_ble_eq_true rfl) (r_does h (by omega)) (fun μ1 hd => ?_)
        have hm1 : MR μ1 105 (nowM σ) := hm.kept (hd.1 105 (by omega)).1
        refine tr_aload_n dX8_tick_40 rfl ?_
        refine tr_getR dX8_tick_41 fg_RX8_26 (by first | assumption | decide) (by first | assumption | rfl) rfl (by omega) ?_
        -- at 44: .invokestatic 153
        refine tr_Si (As := [_]) dX8_tick_44 fm_RX8_153 rfl rfl (Nat.le_of_ble_eq_true rfl) (r_goes isA_105 hm1 hw) (fun v μ2 ⟨e1, e2, e3⟩ => ?_)
        have hs := sP.of (P := fun b => b = 105) e1 (fun b hb => by simpa using hb)
        refine tr_iret dX8_tick_47 (by first | exact trivial | rfl) (pm_e (q := (nI (goN (nowM σ)), gL σ (sL σ ++ [0]))) (by rw [S_tick, if_neg (by omega), if_neg (by omega)]) e3 (hd.done h hs (by rw [doM, if_pos (by decide)]; exact e2)) ((hd.1.fq (fun b hb => by omega)).trans (hs.fq (fun b hb => by omega))))
      · refine tr_bipush (v := -2) dX8_tick_33 (by decide) ?_
        exact tr_iret dX8_tick_35 (by first | exact trivial | rfl) (pm_same h (by rw [S_tick, if_neg (by omega), if_pos (by omega)]))
    · omega
theorem r_aim (h : MI μ σ) (hW : WI σ) : cp X (d + 4) kX8_aim [.ref 99, .int r, .int x] μ (PM μ (S_aim σ r x)) := by
  have hw := hW.now
  have h7 := hw.1
  have hm := h.2.2.1
  have h10 := h.2.2.2.1
  have hl := hW.2.2.1.1
  refine cp_of ok_X8_aim (L := [.ref 99, .int r, .int x, .float 0]) rfl ?_
  refine tr_aload_n dX8_aim_0 rfl ?_
  refine tr_iload_n dX8_aim_1 rfl ?_
  -- at 2: .invokevirtual 126
  refine tr_Vi (As := [_]) dX8_aim_2 fm_RX8_126 rfl rfl (by first | assumption | decide) (by first | assumption | rfl) (Nat.le_of_ble_eq_true rfl) (r_isDrum h h7) (fun v μ1 ⟨e1, e2⟩ => ?_)
  subst μ1; subst v
  cases hr : ixV r (nowM σ 18) with
  | none =>
    refine tr_ifb0 (tgt := 18) dX8_aim_5 (by decide) (fun h1 => ?_) (fun h1 => ?_)
    · refine tr_iconst (v := -1) dX8_aim_18 (by decide) ?_
      exact tr_iret dX8_aim_19 (by first | exact trivial | rfl) (pm_same h (by simp only [S_aim, hr]))
    · cases h1
  | some j =>
    obtain ⟨rfl, hj⟩ := ixV_some (by omega) hr
    have hj7 : j < 7 := by omega
    have k11 := hm (11 + j) (by omega)
    obtain ⟨w4, w11, w19, w26⟩ := hw.2.2.2 j hj7
    refine tr_ifb0 (tgt := 18) dX8_aim_5 (by decide) (fun h1 => ?_) (fun h1 => ?_)
    · cases h1
    · refine tr_iload_n dX8_aim_8 rfl ?_
      refine tr_iconst (v := nI 0) dX8_aim_9 (by decide) ?_
      refine tr_bipush (v := nI 9) dX8_aim_10 (by decide) ?_
      -- at 12: .invokestatic 73
      refine tr_Si (As := [_, _, _]) dX8_aim_12 fm_RX8_73 rfl rfl (Nat.le_of_ble_eq_true rfl) (r_in) (fun v μ1 ⟨e1, e2⟩ => ?_)
      subst μ1; subst v
      rw [in_ix x (by omega)]
      cases hx : ixV x 10 with
      | none =>
        refine tr_ifb1 (tgt := 20) dX8_aim_15 (by decide) (fun h2 => ?_) (fun h2 => ?_)
        · cases h2
        · refine tr_iconst (v := -1) dX8_aim_18 (by decide) ?_
          exact tr_iret dX8_aim_19 (by first | exact trivial | rfl) (pm_same h (by simp only [S_aim, hr, hx]))
      | some q =>
        obtain ⟨rfl, hq⟩ := ixV_some (by omega) hx
        refine tr_ifb1 (tgt := 20) dX8_aim_15 (by decide) (fun h2 => ?_) (fun h2 => ?_)
        · refine tr_aload_n dX8_aim_20 rfl ?_
          refine tr_getR dX8_aim_21 fg_RX8_26 (by first | assumption | decide) (by first | assumption | rfl) rfl (by omega) ?_
          refine tr_bipush (v := nI 11) dX8_aim_24 (by decide) ?_
          refine tr_iload_n dX8_aim_26 rfl ?_
          first | with_reducible refine tr_iaddN dX8_aim_27 ?_ | refine tr_iadd dX8_aim_27 ?_
          refine tr_iald dX8_aim_28 (by first | assumption | decide) (by first | assumption | rfl) rfl (by omega) (by omega) (by first | assumption | rfl) ?_
          refine tr_iload_n dX8_aim_29 rfl ?_
          -- at 30: .if_icmp .ne 6
          refine tr_neN (tgt := 36) dX8_aim_30 (by decide) (by omega) (by omega) (fun h3 => ?_) (fun h3 => ?_)
          · refine tr_aload_n dX8_aim_36 rfl ?_
            refine tr_getI dX8_aim_37 fg_RX8_111 (by first | assumption | decide) (by first | assumption | rfl) rfl (by first | assumption | rfl) ?_
            refine tr_bipush (v := nI 40) dX8_aim_40 (by decide) ?_
            -- at 42: .if_icmp .ne 6
            refine tr_neN (tgt := 48) dX8_aim_42 (by decide) (by omega) (by omega) (fun h4 => ?_) (fun h4 => ?_)
            · refine tr_aload_n dX8_aim_48 rfl ?_
              -- at 49: .invokevirtual 150
              refine tr_Vv (As := []) dX8_aim_49 fm_RX8_150 rfl rfl (by first | assumption | decide) (by first | assumption | rfl) (Nat.le_of_ble_eq_true rfl) (r_does h (by omega)) (fun μ1 hd => ?_)
              have hm1 : MR μ1 105 (nowM σ) := hm.kept (hd.1 105 (by omega)).1
              have k11 := hm1 (11 + j) (by omega)
              refine tr_aload_n dX8_aim_52 rfl ?_
              refine tr_getR dX8_aim_53 fg_RX8_26 (by first | assumption | decide) (by first | assumption | rfl) rfl (by omega) ?_
              refine tr_bipush (v := nI 11) dX8_aim_56 (by decide) ?_
              refine tr_iload_n dX8_aim_58 rfl ?_
              first | with_reducible refine tr_iaddN dX8_aim_59 ?_ | refine tr_iadd dX8_aim_59 ?_
              refine tr_iald dX8_aim_60 (by first | assumption | decide) (by first | assumption | rfl) rfl (by omega) (by omega) (by first | assumption | rfl) ?_
              refine tr_istore_n_3 dX8_aim_61 (by decide) rfl ?_
              refine tr_aload_n dX8_aim_62 rfl ?_
              refine tr_getR dX8_aim_63 fg_RX8_26 (by first | assumption | decide) (by first | assumption | rfl) rfl (by omega) ?_
              refine tr_bipush (v := nI 11) dX8_aim_66 (by decide) ?_
              refine tr_iload_n dX8_aim_68 rfl ?_
              first | with_reducible refine tr_iaddN dX8_aim_69 ?_ | refine tr_iadd dX8_aim_69 ?_
              refine tr_iload_n dX8_aim_70 rfl ?_
              refine tr_iast dX8_aim_71 (by first | assumption | decide) (by first | assumption | rfl) rfl (by omega) (by omega) ?_
              -- at 72: .iload_n 3
              have hm2 := hm1.set (11 + j) q
              have hs := (sP.rf (fun b => b = 105) μ1).put (a := 105) (upd (μ1.1 105) (11 + j) (nI q)) rfl
              generalize sI μ1 105 (upd (μ1.1 105) (11 + j) (nI q)) = μ2 at hm2 hs ⊢
              refine tr_iload_n dX8_aim_72 rfl ?_
              -- at 73: .ireturn
              refine tr_iret dX8_aim_73 (by first | exact trivial | rfl) (pm_e (q := (nI (nowM σ (11 + j)), gL σ (sL σ ++ [256 * 1 + 16 * j + q]))) (by simp only [S_aim, hr, hx]; rw [if_neg h3, if_neg (by omega)]) rfl (hd.done h hs (by
                rw [doM, if_neg (by omega), if_pos (by omega), show (256 * 1 + 16 * j + q) / 16 % 16 = j by omega, show (256 * 1 + 16 * j + q) % 16 = q by omega]
                exact hm2)) ((hd.1.fq (fun b hb => by omega)).trans (hs.fq (fun b hb => by omega))))
            · refine tr_bipush (v := -2) dX8_aim_45 (by decide) ?_
              exact tr_iret dX8_aim_47 (by first | exact trivial | rfl) (pm_same h (by simp only [S_aim, hr, hx]; rw [if_neg h3, if_pos (by omega)]))
          · refine tr_bipush (v := -4) dX8_aim_33 (by decide) ?_
            exact tr_iret dX8_aim_35 (by first | exact trivial | rfl) (pm_same h (by simp only [S_aim, hr, hx]; rw [if_pos h3]))
        · cases h2
theorem r_power (h : MI μ σ) (hW : WI σ) : cp X (d + 4) kX8_power [.ref 99, .int x] μ (PM μ (S_power σ x)) := by
  have hw := hW.now
  have h7 := hw.1
  have h9 := hw.2.1
  have hm := h.2.2.1
  have h10 := h.2.2.2.1
  have hl := hW.2.2.1.1
  have k18 := hm 18 (by omega)
  have k0 := hm 0 (by omega)
  refine cp_of ok_X8_power (L := [.ref 99, .int x, .float 0]) rfl ?_
  refine tr_iload_n dX8_power_0 rfl ?_
  refine tr_iconst (v := nI 1) dX8_power_1 (by decide) ?_
  refine tr_bipush (v := nI 9) dX8_power_2 (by decide) ?_
  -- at 4: .invokestatic 73
  refine tr_Si (As := [_, _, _]) dX8_power_4 fm_RX8_73 rfl rfl (Nat.le_of_ble_eq_true rfl) (r_in) (fun v μ1 ⟨e1, e2⟩ => ?_)
  subst μ1; subst v
  rw [in_p1 x (by omega)]
  cases hx : ixV x 10 with
  | none =>
    refine tr_ifb1 (tgt := 12) dX8_power_7 (by decide) (fun h2 => ?_) (fun h2 => ?_)
    · cases h2
    · refine tr_iconst (v := -1) dX8_power_10 (by decide) ?_
      exact tr_iret dX8_power_11 (by first | exact trivial | rfl) (pm_same h (by simp only [S_power, hx]))
  | some q =>
    obtain ⟨rfl, hq⟩ := ixV_some (by omega) hx
    refine tr_ifb1 (tgt := 12) dX8_power_7 (by decide) (fun h2 => ?_) (fun h2 => ?_)
    · have hq0 : q ≠ 0 := of_decide_eq_true h2
      refine tr_aload_n dX8_power_12 rfl ?_
      refine tr_getR dX8_power_13 fg_RX8_26 (by first | assumption | decide) (by first | assumption | rfl) rfl (by omega) ?_
      refine tr_bipush (v := nI 18) dX8_power_16 (by decide) ?_
      refine tr_iald dX8_power_18 (by first | assumption | decide) (by first | assumption | rfl) rfl (by omega) (by omega) (by first | assumption | rfl) ?_
      -- at 19: .ifCond .eq 13
      refine tr_if0N (tgt := 32) dX8_power_19 (by decide) (by omega) (fun h3 => ?_) (fun h3 => ?_)
      · refine tr_bipush (v := -4) dX8_power_32 (by decide) ?_
        exact tr_iret dX8_power_34 (by first | exact trivial | rfl) (pm_same h (by simp only [S_power, hx]; rw [if_neg hq0, if_pos (Or.inl h3)]))
      · refine tr_aload_n dX8_power_22 rfl ?_
        refine tr_getR dX8_power_23 fg_RX8_26 (by first | assumption | decide) (by first | assumption | rfl) rfl (by omega) ?_
        refine tr_iconst (v := nI 0) dX8_power_26 (by decide) ?_
        refine tr_iald dX8_power_27 (by first | assumption | decide) (by first | assumption | rfl) rfl (by omega) (by omega) (by first | assumption | rfl) ?_
        refine tr_iload_n dX8_power_28 rfl ?_
        -- at 29: .if_icmp .ne 6
        refine tr_neN (tgt := 35) dX8_power_29 (by decide) (by omega) (by omega) (fun h4 => ?_) (fun h4 => ?_)
        · refine tr_aload_n dX8_power_35 rfl ?_
          refine tr_getI dX8_power_36 fg_RX8_111 (by first | assumption | decide) (by first | assumption | rfl) rfl (by first | assumption | rfl) ?_
          refine tr_bipush (v := nI 40) dX8_power_39 (by decide) ?_
          -- at 41: .if_icmp .ne 6
          refine tr_neN (tgt := 47) dX8_power_41 (by decide) (by omega) (by omega) (fun h5 => ?_) (fun h5 => ?_)
          · refine tr_aload_n dX8_power_47 rfl ?_
            -- at 48: .invokevirtual 150
            refine tr_Vv (As := []) dX8_power_48 fm_RX8_150 rfl rfl (by first | assumption | decide) (by first | assumption | rfl) (Nat.le_of_ble_eq_true rfl) (r_does h (by omega)) (fun μ1 hd => ?_)
            have hm1 : MR μ1 105 (nowM σ) := hm.kept (hd.1 105 (by omega)).1
            have k0 := hm1 0 (by omega)
            refine tr_aload_n dX8_power_51 rfl ?_
            refine tr_getR dX8_power_52 fg_RX8_26 (by first | assumption | decide) (by first | assumption | rfl) rfl (by omega) ?_
            refine tr_iconst (v := nI 0) dX8_power_55 (by decide) ?_
            refine tr_iald dX8_power_56 (by first | assumption | decide) (by first | assumption | rfl) rfl (by omega) (by omega) (by first | assumption | rfl) ?_
            refine tr_istore_n_2 dX8_power_57 (by decide) rfl ?_
            refine tr_aload_n dX8_power_58 rfl ?_
            refine tr_getR dX8_power_59 fg_RX8_26 (by first | assumption | decide) (by first | assumption | rfl) rfl (by omega) ?_
            refine tr_iconst (v := nI 0) dX8_power_62 (by decide) ?_
            refine tr_iload_n dX8_power_63 rfl ?_
            refine tr_iast dX8_power_64 (by first | assumption | decide) (by first | assumption | rfl) rfl (by omega) (by omega) ?_
            -- at 65: .iload_n 2
            have hm2 := hm1.set 0 q
            have hs := (sP.rf (fun b => b = 105) μ1).put (a := 105) (upd (μ1.1 105) 0 (nI q)) rfl
            generalize sI μ1 105 (upd (μ1.1 105) 0 (nI q)) = μ2 at hm2 hs ⊢
            refine tr_iload_n dX8_power_65 rfl ?_
            -- at 66: .ireturn
            refine tr_iret dX8_power_66 (by first | exact trivial | rfl) (pm_e (q := (nI (nowM σ 0), gL σ (sL σ ++ [256 * 2 + 16 * 0 + q]))) (by simp only [S_power, hx]; rw [if_neg hq0, if_neg (by omega), if_neg (by omega)]) rfl (hd.done h hs (by
              rw [doM, if_neg (by omega), if_neg (by omega), if_pos (by omega), show (256 * 2 + 16 * 0 + q) % 16 = q by omega]
              exact hm2)) ((hd.1.fq (fun b hb => by omega)).trans (hs.fq (fun b hb => by omega))))
          · refine tr_bipush (v := -2) dX8_power_44 (by decide) ?_
            exact tr_iret dX8_power_46 (by first | exact trivial | rfl) (pm_same h (by simp only [S_power, hx]; rw [if_neg hq0, if_neg (by omega), if_pos (by omega)]))
        · refine tr_bipush (v := -4) dX8_power_32 (by decide) ?_
          exact tr_iret dX8_power_34 (by first | exact trivial | rfl) (pm_same h (by simp only [S_power, hx]; rw [if_neg hq0, if_pos (Or.inr h4)]))
    · have hq0 : q = 0 := Decidable.not_not.mp (of_decide_eq_false h2)
      refine tr_iconst (v := -1) dX8_power_10 (by decide) ?_
      exact tr_iret dX8_power_11 (by first | exact trivial | rfl) (pm_same h (by simp only [S_power, hx]; rw [if_pos hq0]))
theorem r_jam (h : MI μ σ) (hW : WI σ) : cp X (d + 4) kX8_jam [.ref 99, .int r] μ (PM μ (S_jam σ r)) := by
  have hw := hW.now
  have h7 := hw.1
  have hm := h.2.2.1
  have h10 := h.2.2.2.1
  have hl := hW.2.2.1.1
  refine cp_of ok_X8_jam (L := [.ref 99, .int r]) rfl ?_
  refine tr_aload_n dX8_jam_0 rfl ?_
  refine tr_iload_n dX8_jam_1 rfl ?_
  -- at 2: .invokevirtual 126
  refine tr_Vi (As := [_]) dX8_jam_2 fm_RX8_126 rfl rfl (by first | assumption | decide) (by first | assumption | rfl) (Nat.le_of_ble_eq_true rfl) (r_isDrum h h7) (fun v μ1 ⟨e1, e2⟩ => ?_)
  subst μ1; subst v
  cases hr : ixV r (nowM σ 18) with
  | none =>
    refine tr_ifb1 (tgt := 10) dX8_jam_5 (by decide) (fun h1 => ?_) (fun h1 => ?_)
    · cases h1
    · refine tr_iconst (v := -1) dX8_jam_8 (by decide) ?_
      exact tr_iret dX8_jam_9 (by first | exact trivial | rfl) (pm_same h (by simp only [S_jam, hr]))
  | some j =>
    obtain ⟨rfl, hj⟩ := ixV_some (by omega) hr
    have hj7 : j < 7 := by omega
    refine tr_ifb1 (tgt := 10) dX8_jam_5 (by decide) (fun h1 => ?_) (fun h1 => ?_)
    · refine tr_aload_n dX8_jam_10 rfl ?_
      refine tr_getI dX8_jam_11 fg_RX8_111 (by first | assumption | decide) (by first | assumption | rfl) rfl (by first | assumption | rfl) ?_
      refine tr_bipush (v := nI 40) dX8_jam_14 (by decide) ?_
      -- at 16: .if_icmp .ne 6
      refine tr_neN (tgt := 22) dX8_jam_16 (by decide) (by omega) (by omega) (fun h4 => ?_) (fun h4 => ?_)
      · refine tr_aload_n dX8_jam_22 rfl ?_
        -- at 23: .invokevirtual 150
        refine tr_Vv (As := []) dX8_jam_23 fm_RX8_150 rfl rfl (by first | assumption | decide) (by first | assumption | rfl) (Nat.le_of_ble_eq_true rfl) (r_does h (by omega)) (fun μ1 hd => ?_)
        have hm1 : MR μ1 105 (nowM σ) := hm.kept (hd.1 105 (by omega)).1
        have k3 := hm1 3 (by omega)
        have hx7 : nowM σ 3 ^^^ 2 ^ j < 128 := xor_lt (n := 7) hw.jam hj7
        refine tr_aload_n dX8_jam_26 rfl ?_
        refine tr_getR dX8_jam_27 fg_RX8_26 (by first | assumption | decide) (by first | assumption | rfl) rfl (by omega) ?_
        refine tr_iconst (v := nI 3) dX8_jam_30 (by decide) ?_
        refine tr_dup2 dX8_jam_31 rfl rfl ?_
        refine tr_iald dX8_jam_32 (by first | assumption | decide) (by first | assumption | rfl) rfl (by omega) (by omega) (by first | assumption | rfl) ?_
        refine tr_iconst (v := nI 1) dX8_jam_33 (by decide) ?_
        refine tr_iload_n dX8_jam_34 rfl ?_
        refine tr_ishl dX8_jam_35 ?_
        refine tr_ixor dX8_jam_36 ?_
        -- at 37: .iastore
        refine tr_v (jam_flip _ hw.jam j hj7) ?_
        refine tr_iast dX8_jam_37 (by first | assumption | decide) (by first | assumption | rfl) rfl (by omega) (by omega) ?_
        -- at 38: .aload_n 0
        have hm2 := hm1.set 3 (nowM σ 3 ^^^ 2 ^ j)
        have hs := (sP.rf (fun b => b = 105) μ1).put (a := 105) (upd (μ1.1 105) 3 (nI (nowM σ 3 ^^^ 2 ^ j))) rfl
        generalize sI μ1 105 (upd (μ1.1 105) 3 (nI (nowM σ 3 ^^^ 2 ^ j))) = μ2 at hm2 hs ⊢
        have k3 := hm2 3 (by omega)
        rw [nu_s] at k3
        refine tr_aload_n dX8_jam_38 rfl ?_
        refine tr_getR dX8_jam_39 fg_RX8_26 (by first | assumption | decide) (by first | assumption | rfl) rfl (by omega) ?_
        refine tr_iconst (v := nI 3) dX8_jam_42 (by decide) ?_
        refine tr_iald dX8_jam_43 (by first | assumption | decide) (by first | assumption | rfl) rfl (by omega) (by omega) (by first | assumption | rfl) ?_
        -- at 44: .invokestatic 157
        refine tr_Si (As := [_]) dX8_jam_44 fm_RX8_157 rfl rfl (Nat.le_of_ble_eq_true rfl) (r_ones hx7) (fun v μ3 ⟨e1, e2⟩ => ?_)
        subst μ3; subst v
        refine tr_iret dX8_jam_47 (by first | exact trivial | rfl) (pm_e (q := (nI (onesM 7 (nowM σ 3 ^^^ 2 ^ j)), gL σ (sL σ ++ [256 * 3 + 16 * j + 0]))) (by simp only [S_jam, hr]; rw [if_neg (by omega)]) rfl (hd.done h hs (by
          rw [doM, if_neg (by omega), if_neg (by omega), if_neg (by omega), if_pos (by omega), show (256 * 3 + 16 * j + 0) / 16 % 16 = j by omega]
          exact hm2)) ((hd.1.fq (fun b hb => by omega)).trans (hs.fq (fun b hb => by omega))))
      · refine tr_bipush (v := -2) dX8_jam_19 (by decide) ?_
        exact tr_iret dX8_jam_21 (by first | exact trivial | rfl) (pm_same h (by simp only [S_jam, hr]; rw [if_pos (by omega)]))
    · cases h1
end M5
