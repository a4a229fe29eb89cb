-- ===== the reference: undo, keep, on; texts read; later, ends =====
theorem MI.keepk {μ μ' : am_M} {σ : SG} {q : Nat} {o : Option (List Nat)} (h : MI μ σ) (hs : sP (fun b => b = 110 ∨ b = 111 ∨ b = 112) μ μ') (hk : MK μ' (gK σ q o) q) (h0 : ∀ p, p < 3 → p ≠ q → μ'.1 112 p = μ.1 112 p) (h1 : ∀ p, p < 3 → p ≠ q → ∀ j, j < 33 → μ'.1 110 (33 * p + j) = μ.1 110 (33 * p + j)) (h2 : ∀ p, p < 3 → p ≠ q → ∀ j, j < 720 → μ'.1 111 (720 * p + j) = μ.1 111 (720 * p + j)) (hl : ∀ p l, sK σ p = some l → l.length ≤ 40) : MI μ' (gK σ q o) := by
  obtain ⟨g1, g2, g3, g4, g5, g6, g7, g8, g9, g10, g11⟩ := h
  have hn : ∀ b, ¬ (b = 110 ∨ b = 111 ∨ b = 112) → μ'.1 b = μ.1 b ∧ μ'.2 b = μ.2 b := hs
  have n99 := hn 99 (by omega)
  refine ⟨fun r hr => (g1 r hr).kept (hn _ (by omega)).1 (hn _ (by omega)).1, fun t ht => (g2 t ht).kept (hn _ (by omega)).1 (hn _ (by omega)).1, g3.kept (hn _ (by omega)).1, by rw [n99.1]; exact g4, g5.kept (hn _ (by omega)).1, fun p hp => ?_, by rw [n99.1]; exact g7, by rw [n99.1]; exact g8, fun f hf => by rw [(hn 113 (by omega)).1]; exact g9 f hf, by rw [n99.2]; exact g10, by rw [n99.2]; exact g11⟩
  by_cases e : p = q
  · subst e; exact hk
  · have ek : sK (gK σ q o) p = sK σ p := if_neg e
    obtain ⟨k1, k2⟩ := g6 p hp
    refine ⟨by rw [ek, h0 p hp e]; exact k1, fun l hl2 => ?_⟩
    rw [ek] at hl2
    have hlen := hl p l hl2
    refine ⟨fun j hj => (h1 p hp e j hj).trans ((k2 l hl2).1 j hj), fun n hn' k hk' => ?_⟩
    rw [h2 p hp e _ (by omega)]
    exact (k2 l hl2).2 n hn' k hk'
def btM (n : Nat) (f : Nat → Int32) (p : Nat) : Int32 := if p < n then f p else -1000
theorem le57 (x : Int32) : x ≤ nI 57 ↔ x < nI 58 := by
  rw [Int32.le_iff_toInt_le, Int32.lt_iff_toInt_lt, nI_toInt (by omega), nI_toInt (by omega)]
  omega
theorem fig_in {lo : Nat} (hl : lo ≤ 1) (n : Nat) (f : Nat → Int32) (p : Nat) : decide (nI (48 + lo) ≤ btM n f p ∧ btM n f p ≤ nI 57) = decide (p < n ∧ isFig lo (f p) = true) := by
  by_cases h : p < n
  · rw [btM, if_pos h]
    by_cases e : isFig lo (f p) = true
    · have e' := of_decide_eq_true e
      rw [decide_eq_true ⟨e'.1, (le57 _).mpr e'.2⟩, decide_eq_true ⟨h, e⟩]
    · rw [decide_eq_false (p := p < n ∧ isFig lo (f p) = true) (fun q => e q.2)]
      exact decide_eq_false (fun q => e (decide_eq_true ⟨q.1, (le57 _).mp q.2⟩))
  · rw [btM, if_neg h, decide_eq_false (p := p < n ∧ isFig lo (f p) = true) (fun q => h q.1)]
    refine decide_eq_false (fun q => ?_)
    have q1 := Int32.le_iff_toInt_le.mp q.1
    rw [nI_toInt (by omega)] at q1
    have : (-1000 : Int32).toInt = -1000 := rfl
    omega
section M6
variable {X : Nat × (Nat → Int32)} {d : Nat} {μ : am_M} {σ : SG} {a b i j n p : Nat} {c : NF} {r x y z w : Int32} {f : Nat → Int32}
theorem r_undo (h : MI μ σ) (hW : WI σ) : cp X (d + 2) kX8_undo [.ref 99, .int x] μ (PM μ (S_undo σ x)) := by
  have hm := h.2.2.1
  have h10 := h.2.2.2.1
  have h5 := h.2.2.2.2.1
  have hl := hW.2.2.1.1
  refine cp_of ok_X8_undo (L := [.ref 99, .int x, .float 0, .float 0]) rfl ?_
  refine tr_iload_n dX8_undo_0 rfl ?_
  refine tr_iconst (v := nI 0) dX8_undo_1 (by decide) ?_
  refine tr_aload_n dX8_undo_2 rfl ?_
  refine tr_getI dX8_undo_3 fg_RX8_111 (by first | assumption | decide) (by first | assumption | rfl) rfl (by first | assumption | rfl) ?_
  -- at 6: .invokestatic 73
  refine tr_Si (As := [_, _, _]) dX8_undo_6 fm_RX8_73 rfl rfl (Nat.le_of_ble_eq_true rfl) (r_in) (fun v μ1 ⟨e1, e2⟩ => ?_)
  subst μ1; subst v
  rw [in_ix x (by omega)]
  cases hx : ixV x ((sL σ).length + 1) with
  | none =>
    refine tr_ifb1 (tgt := 14) dX8_undo_9 (by decide) (fun h2 => ?_) (fun h2 => ?_)
    · cases h2
    · refine tr_iconst (v := -1) dX8_undo_12 (by decide) ?_
      exact tr_iret dX8_undo_13 (by first | exact trivial | rfl) (pm_same h (by simp only [S_undo, hx]))
  | some q =>
    obtain ⟨rfl, hq⟩ := ixV_some (by omega) hx
    have hq' : q ≤ (sL σ).length := by omega
    have eS : S_undo σ (nI q) = (nI ((sL σ).length - q), gL σ ((sL σ).take q)) := by simp only [S_undo, hx]
    rw [eS]
    have hok : ∀ dd ∈ (sL σ).take q, dOK (sS σ 18) dd := fun dd hd => hW.2.2.1.2 dd (List.mem_of_mem_take hd)
    have hfin : ∀ (v3 : Value) (μ1 : am_M), sP (fun b => b = 105) μ μ1 → MR μ1 105 (repM ((sL σ).take q) (sS σ)) → tw X (d + 1) kX8_undo (PM μ (nI ((sL σ).length - q), gL σ ((sL σ).take q))) 56 [.ref 99, .int (nI q), .int (nI ((sL σ).length - q)), v3] [] μ1 := by
      intro v3 μ1 p1 p2
      refine tr_aload_n dX8_undo_56 rfl ?_
      refine tr_iload_n dX8_undo_57 rfl ?_
      refine tr_putI dX8_undo_58 fp_RX8_111 (by first | assumption | decide) (by first | assumption | rfl) rfl ?_
      refine tr_iload_n dX8_undo_61 rfl ?_
      -- at 62: .ireturn
      have hs := (p1.wide (P' := fun b => b = 99 ∨ b = 105 ∨ b = 109) (fun b hb => Or.inr (Or.inl hb))).put (a := 99) (upd (μ1.1 99) 10 (nI q)) (Or.inl rfl)
      refine tr_iret dX8_undo_62 (by first | exact trivial | rfl) ⟨rfl, h.deed hs (p2.kept (by rw [sI_ne _ _ (by omega)])) (by rw [sI_same, (p1 99 (by omega)).1, List.length_take_of_le hq']) (p1 99 (by omega)).2 ?_, hs.fq (fun b hb => by omega)⟩
      intro n hn k hk
      rw [List.length_take_of_le hq'] at hn
      rw [sI_ne _ _ (by omega), (p1 109 (by omega)).1, List.take_take, Nat.min_eq_left (by omega)]
      exact h5 n (by omega) k hk
    refine tr_ifb1 (tgt := 14) dX8_undo_9 (by decide) (fun h2 => ?_) (fun h2 => ?_)
    · refine tr_aload_n dX8_undo_14 rfl ?_
      refine tr_getI dX8_undo_15 fg_RX8_111 (by first | assumption | decide) (by first | assumption | rfl) rfl (by first | assumption | rfl) ?_
      refine tr_iload_n dX8_undo_18 rfl ?_
      first | with_reducible refine tr_isubN dX8_undo_19 (by omega) ?_ | refine tr_isub dX8_undo_19 ?_
      refine tr_istore_n_2 dX8_undo_20 (by decide) rfl ?_
      refine tr_iload_n dX8_undo_21 rfl ?_
      -- at 22: .ifCond .le 34
      refine tr_if_le (tgt := 56) dX8_undo_22 (by decide) (fun h3 => ?_) (fun h3 => ?_)
      · have e : q = (sL σ).length := by
          refine Decidable.byContradiction fun e => absurd h3 (nI_nle (by omega) (by omega))
        refine hfin _ μ (sP.rf _ μ) ?_
        rw [e, List.take_length]
        exact hm
      · have e : q < (sL σ).length := by
          refine Decidable.byContradiction fun e => h3 ?_
          rw [show (sL σ).length - q = 0 by omega]
          decide
        refine tr_iconst (v := nI 0) dX8_undo_25 (by decide) ?_
        refine tr_istore_n_3 dX8_undo_26 (by decide) rfl ?_
        -- at 27: .iload_n 3
        refine tw_for (n := 18) (Lf := fun k => [.ref 99, .int (nI q), .int (nI ((sL σ).length - q)), .int (nI k)]) (P := fun k μ1 => sP (fun b => b = 105) μ μ1 ∧ ∀ i, i < 33 → μ1.1 105 i = nI (if i < k then repM ((sL σ).take q) (sS σ) i else nowM σ i)) (fun k μ1 hk hP ih => ?_) (fun μ1 hP => ?_) 0 _ (by omega) ⟨sP.rf _ μ, fun i hi => by rw [if_neg (by omega)]; exact hm i hi⟩
        · obtain ⟨p1, p2⟩ := hP
          have g : μ1.1 109 (18 * q + k) = nI (repM ((sL σ).take q) (sS σ) k) := by
            rw [(p1 109 (by omega)).1]
            have := h5 q e k hk
            rw [Nat.zero_add] at this
            exact this
          refine tr_iload_n dX8_undo_27 rfl ?_
          refine tr_bipush (v := nI 18) dX8_undo_28 (by decide) ?_
          -- at 30: .if_icmp .ge 26
          refine tr_geN (tgt := 56) dX8_undo_30 (by decide) (by omega) (by omega) (fun h1 => ?_) (fun h1 => ?_)
          · omega
          · refine tr_aload_n dX8_undo_33 rfl ?_
            refine tr_getR dX8_undo_34 fg_RX8_26 (by first | assumption | decide) (by first | assumption | rfl) rfl (by omega) ?_
            refine tr_iload_n dX8_undo_37 rfl ?_
            refine tr_aload_n dX8_undo_38 rfl ?_
            refine tr_getR dX8_undo_39 fg_RX8_38 (by first | assumption | decide) (by first | assumption | rfl) rfl (by omega) ?_
            refine tr_bipush (v := nI 18) dX8_undo_42 (by decide) ?_
            refine tr_iload_n dX8_undo_44 rfl ?_
            first | with_reducible refine tr_imulN dX8_undo_45 ?_ | refine tr_imul dX8_undo_45 ?_
            refine tr_iload_n dX8_undo_46 rfl ?_
            first | with_reducible refine tr_iaddN dX8_undo_47 ?_ | refine tr_iadd dX8_undo_47 ?_
            refine tr_iald dX8_undo_48 (by first | assumption | decide) (by first | assumption | rfl) rfl (by omega) (by omega) (by first | assumption | rfl) ?_
            refine tr_iast dX8_undo_49 (by first | assumption | decide) (by first | assumption | rfl) rfl (by omega) (by omega) ?_
            first | with_reducible refine tr_iincN_3 dX8_undo_50 (by decide) rfl ?_ | refine tr_iinc_3 dX8_undo_50 (by decide) rfl ?_
            refine tr_goto (tgt := 27) dX8_undo_53 (by decide) ?_
            -- at 27: .iload_n 3
            refine ih _ ⟨p1.put _ rfl, fun i hi => ?_⟩
            rw [sI_same]
            by_cases e : i = k
            · subst e; rw [pk_us, if_pos (by omega)]
            · rw [pk_un e, p2 i hi]
              by_cases e2 : i < k
              · rw [if_pos e2, if_pos (by omega)]
              · rw [if_neg e2, if_neg (by omega)]
        · obtain ⟨p1, p2⟩ := hP
          refine tr_iload_n dX8_undo_27 rfl ?_
          refine tr_bipush (v := nI 18) dX8_undo_28 (by decide) ?_
          -- at 30: .if_icmp .ge 26
          refine tr_geN (tgt := 56) dX8_undo_30 (by decide) (by omega) (by omega) (fun h1 => ?_) (fun h1 => ?_)
          · refine hfin _ μ1 p1 (fun i hi => ?_)
            rw [p2 i hi]
            by_cases e2 : i < 18
            · rw [if_pos e2]
            · rw [if_neg e2, repM_hi _ _ hW.1 hok i (by omega)]
              show nI (repM (sL σ) (sS σ) i) = _
              rw [repM_hi _ _ hW.1 hW.2.2.1.2 i (by omega)]
          · omega
    · cases h2
theorem r_keep (h : MI μ σ) (hW : WI σ) : cp X (d + 2) kX8_keep [.ref 99, .int x] μ (PM μ (S_keep σ x)) := by
  have hm := h.2.2.1
  have h7 := hW.now.1
  have h10 := h.2.2.2.1
  have h5 := h.2.2.2.2.1
  have hl := hW.2.2.1.1
  have k18 := hm 18 (by omega)
  refine cp_of ok_X8_keep (L := [.ref 99, .int x, .float 0]) rfl ?_
  refine tr_iload_n dX8_keep_0 rfl ?_
  refine tr_iconst (v := nI 0) dX8_keep_1 (by decide) ?_
  refine tr_iconst (v := nI 2) dX8_keep_2 (by decide) ?_
  -- at 3: .invokestatic 73
  refine tr_Si (As := [_, _, _]) dX8_keep_3 fm_RX8_73 rfl rfl (Nat.le_of_ble_eq_true rfl) (r_in) (fun v μ1 ⟨e1, e2⟩ => ?_)
  subst μ1; subst v
  rw [in_ix x (by omega)]
  cases hx : ixV x 3 with
  | none =>
    refine tr_ifb1 (tgt := 11) dX8_keep_6 (by decide) (fun h2 => ?_) (fun h2 => ?_)
    · cases h2
    · refine tr_iconst (v := -1) dX8_keep_9 (by decide) ?_
      exact tr_iret dX8_keep_10 (by first | exact trivial | rfl) (pm_same h (by simp only [S_keep, hx]))
  | some q =>
    obtain ⟨rfl, hq⟩ := ixV_some (by omega) hx
    refine tr_ifb1 (tgt := 11) dX8_keep_6 (by decide) (fun h2 => ?_) (fun h2 => ?_)
    · refine tr_aload_n dX8_keep_11 rfl ?_
      refine tr_getR dX8_keep_12 fg_RX8_26 (by first | assumption | decide) (by first | assumption | rfl) rfl (by omega) ?_
      refine tr_bipush (v := nI 18) dX8_keep_15 (by decide) ?_
      refine tr_iald dX8_keep_17 (by first | assumption | decide) (by first | assumption | rfl) rfl (by omega) (by omega) (by first | assumption | rfl) ?_
      -- at 18: .ifCond .ne 6
      refine tr_ifnN (tgt := 24) dX8_keep_18 (by decide) (by omega) (fun h3 => ?_) (fun h3 => ?_)
      · have eS : S_keep σ (nI q) = (nI (sL σ).length, gK σ q (some (sL σ))) := by simp only [S_keep, hx]; rw [if_neg h3]
        rw [eS]
        refine tr_iconst (v := nI 0) dX8_keep_24 (by decide) ?_
        refine tr_istore_n_2 dX8_keep_25 (by decide) rfl ?_
        -- at 26: .iload_n 2
        refine tw_for (n := 33) (Lf := fun k => [.ref 99, .int (nI q), .int (nI k)]) (P := fun k μ1 => sP (fun b => b = 110) μ μ1 ∧ (∀ j, j < k → μ1.1 110 (33 * q + j) = nI (nowM σ j)) ∧ ∀ p, p < 3 → p ≠ q → ∀ j, j < 33 → μ1.1 110 (33 * p + j) = μ.1 110 (33 * p + j)) (fun k μ1 hk hP ih => ?_) (fun μ1 hP => ?_) 0 _ (by omega) ⟨sP.rf _ μ, fun j hj => by omega, fun p hp hpq j hj => rfl⟩
        · obtain ⟨p1, p2, p3⟩ := hP
          have g : μ1.1 105 k = nI (nowM σ k) := by rw [(p1 105 (by omega)).1]; exact hm k hk
          refine tr_iload_n dX8_keep_26 rfl ?_
          refine tr_bipush (v := nI 33) dX8_keep_27 (by decide) ?_
          -- at 29: .if_icmp .ge 26
          refine tr_geN (tgt := 55) dX8_keep_29 (by decide) (by omega) (by omega) (fun h1 => ?_) (fun h1 => ?_)
          · omega
          · refine tr_aload_n dX8_keep_32 rfl ?_
            refine tr_getR dX8_keep_33 fg_RX8_41 (by first | assumption | decide) (by first | assumption | rfl) rfl (by omega) ?_
            refine tr_bipush (v := nI 33) dX8_keep_36 (by decide) ?_
            refine tr_iload_n dX8_keep_38 rfl ?_
            first | with_reducible refine tr_imulN dX8_keep_39 ?_ | refine tr_imul dX8_keep_39 ?_
            refine tr_iload_n dX8_keep_40 rfl ?_
            first | with_reducible refine tr_iaddN dX8_keep_41 ?_ | refine tr_iadd dX8_keep_41 ?_
            refine tr_aload_n dX8_keep_42 rfl ?_
            refine tr_getR dX8_keep_43 fg_RX8_26 (by first | assumption | decide) (by first | assumption | rfl) rfl (by omega) ?_
            refine tr_iload_n dX8_keep_46 rfl ?_
            refine tr_iald dX8_keep_47 (by first | assumption | decide) (by first | assumption | rfl) rfl (by omega) (by omega) (by first | assumption | rfl) ?_
            refine tr_iast dX8_keep_48 (by first | assumption | decide) (by first | assumption | rfl) rfl (by omega) (by omega) ?_
            first | with_reducible refine tr_iincN_2 dX8_keep_49 (by decide) rfl ?_ | refine tr_iinc_2 dX8_keep_49 (by decide) rfl ?_
            refine tr_goto (tgt := 26) dX8_keep_52 (by decide) ?_
            -- at 26: .iload_n 2
            refine ih _ ⟨p1.put _ rfl, fun i hi => ?_, fun p hp hpq j hj => ?_⟩
            · rw [sI_same]
              by_cases e : i = k
              · subst e; rw [pk_us]
              · rw [pk_un (by omega)]; exact p2 i (by omega)
            · rw [sI_same, pk_un (by omega)]; exact p3 p hp hpq j hj
        · obtain ⟨p1, p2, p3⟩ := hP
          refine tr_iload_n dX8_keep_26 rfl ?_
          refine tr_bipush (v := nI 33) dX8_keep_27 (by decide) ?_
          -- at 29: .if_icmp .ge 26
          refine tr_geN (tgt := 55) dX8_keep_29 (by decide) (by omega) (by omega) (fun h1 => ?_) (fun h1 => ?_)
          · refine tr_iconst (v := nI 0) dX8_keep_55 (by decide) ?_
            refine tr_istore_n_2 dX8_keep_56 (by decide) rfl ?_
            -- at 57: .iload_n 2
            refine tw_for (n := 720) (Lf := fun k => [.ref 99, .int (nI q), .int (nI k)]) (P := fun k μ2 => sP (fun b => b = 111) μ1 μ2 ∧ (∀ j, j < k → μ2.1 111 (720 * q + j) = μ.1 109 j) ∧ ∀ p, p < 3 → p ≠ q → ∀ j, j < 720 → μ2.1 111 (720 * p + j) = μ.1 111 (720 * p + j)) (fun k μ2 hk hP ih => ?_) (fun μ2 hP => ?_) 0 _ (by omega) ⟨sP.rf _ μ1, fun j hj => by omega, fun p hp hpq j hj => by rw [(p1 111 (by omega)).1]⟩
            · obtain ⟨u1, u2, u3⟩ := hP
              have g : μ2.1 109 k = μ.1 109 k := by rw [(u1 109 (by omega)).1, (p1 109 (by omega)).1]
              refine tr_iload_n dX8_keep_57 rfl ?_
              refine tr_aload_n dX8_keep_58 rfl ?_
              refine tr_getR dX8_keep_59 fg_RX8_38 (by first | assumption | decide) (by first | assumption | rfl) rfl (by omega) ?_
              refine tr_alen dX8_keep_62 (by first | assumption | decide) (by first | assumption | rfl) (by decide) ?_
              -- at 63: .if_icmp .ge 29
              refine tr_geN (tgt := 92) dX8_keep_63 (by decide) (by omega) (by omega) (fun h4 => ?_) (fun h4 => ?_)
              · omega
              · refine tr_aload_n dX8_keep_66 rfl ?_
                refine tr_getR dX8_keep_67 fg_RX8_44 (by first | assumption | decide) (by first | assumption | rfl) rfl (by omega) ?_
                refine tr_aload_n dX8_keep_70 rfl ?_
                refine tr_getR dX8_keep_71 fg_RX8_38 (by first | assumption | decide) (by first | assumption | rfl) rfl (by omega) ?_
                refine tr_alen dX8_keep_74 (by first | assumption | decide) (by first | assumption | rfl) (by decide) ?_
                refine tr_iload_n dX8_keep_75 rfl ?_
                first | with_reducible refine tr_imulN dX8_keep_76 ?_ | refine tr_imul dX8_keep_76 ?_
                refine tr_iload_n dX8_keep_77 rfl ?_
                first | with_reducible refine tr_iaddN dX8_keep_78 ?_ | refine tr_iadd dX8_keep_78 ?_
                refine tr_aload_n dX8_keep_79 rfl ?_
                refine tr_getR dX8_keep_80 fg_RX8_38 (by first | assumption | decide) (by first | assumption | rfl) rfl (by omega) ?_
                refine tr_iload_n dX8_keep_83 rfl ?_
                refine tr_iald dX8_keep_84 (by first | assumption | decide) (by first | assumption | rfl) rfl (by omega) (by omega) (by first | assumption | rfl) ?_
                refine tr_iast dX8_keep_85 (by first | assumption | decide) (by first | assumption | rfl) rfl (by omega) (by omega) ?_
                first | with_reducible refine tr_iincN_2 dX8_keep_86 (by decide) rfl ?_ | refine tr_iinc_2 dX8_keep_86 (by decide) rfl ?_
                refine tr_goto (tgt := 57) dX8_keep_89 (by decide) ?_
                -- at 57: .iload_n 2
                refine ih _ ⟨u1.put _ rfl, fun i hi => ?_, fun p hp hpq j hj => ?_⟩
                · rw [sI_same]
                  by_cases e : i = k
                  · subst e; rw [pk_us]
                  · rw [pk_un (by omega)]; exact u2 i (by omega)
                · rw [sI_same, pk_un (by omega)]; exact u3 p hp hpq j hj
            · obtain ⟨u1, u2, u3⟩ := hP
              have g10 : μ2.1 99 10 = nI (sL σ).length := by rw [(u1 99 (by omega)).1, (p1 99 (by omega)).1]; exact h10
              have e112 : μ2.1 112 = μ.1 112 := (u1 112 (by omega)).1.trans (p1 112 (by omega)).1
              have e110 : μ2.1 110 = μ1.1 110 := (u1 110 (by omega)).1
              have hs := (((p1.wide (P' := fun b => b = 110 ∨ b = 111 ∨ b = 112) (fun b hb => Or.inl hb)).trans (u1.wide (fun b hb => Or.inr (Or.inl hb))))).put (a := 112) (upd (μ2.1 112) q (nI (sL σ).length)) (Or.inr (Or.inr rfl))
              refine tr_iload_n dX8_keep_57 rfl ?_
              refine tr_aload_n dX8_keep_58 rfl ?_
              refine tr_getR dX8_keep_59 fg_RX8_38 (by first | assumption | decide) (by first | assumption | rfl) rfl (by omega) ?_
              refine tr_alen dX8_keep_62 (by first | assumption | decide) (by first | assumption | rfl) (by decide) ?_
              -- at 63: .if_icmp .ge 29
              refine tr_geN (tgt := 92) dX8_keep_63 (by decide) (by omega) (by omega) (fun h4 => ?_) (fun h4 => ?_)
              · refine tr_aload_n dX8_keep_92 rfl ?_
                refine tr_getR dX8_keep_93 fg_RX8_47 (by first | assumption | decide) (by first | assumption | rfl) rfl (by omega) ?_
                refine tr_iload_n dX8_keep_96 rfl ?_
                refine tr_aload_n dX8_keep_97 rfl ?_
                refine tr_getI dX8_keep_98 fg_RX8_111 (by first | assumption | decide) (by first | assumption | rfl) rfl (by first | assumption | rfl) ?_
                refine tr_iast dX8_keep_101 (by first | assumption | decide) (by first | assumption | rfl) rfl (by omega) (by omega) ?_
                -- at 102: .aload_n 0
                have g10' : (sI μ2 112 (upd (μ2.1 112) q (nI (sL σ).length))).1 99 10 = nI (sL σ).length := by rw [sI_ne _ _ (by omega)]; exact g10
                refine tr_aload_n dX8_keep_102 rfl ?_
                refine tr_getI dX8_keep_103 fg_RX8_111 (by first | assumption | decide) (by first | assumption | rfl) rfl (by first | assumption | rfl) ?_
                -- at 106: .ireturn
                have ek : sK (gK σ q (some (sL σ))) q = some (sL σ) := if_pos rfl
                refine tr_iret dX8_keep_106 (by first | exact trivial | rfl) ⟨rfl, h.keepk hs ⟨by rw [ek, sI_same, pk_us]; rfl, fun l hl2 => ?_⟩ (fun p hp hpq => by rw [sI_same, pk_un hpq, e112]) (fun p hp hpq j hj => by rw [sI_ne _ _ (by omega), e110]; exact p3 p hp hpq j hj) (fun p hp hpq j hj => by rw [sI_ne _ _ (by omega)]; exact u3 p hp hpq j hj) (fun p l hl2 => (hW.2.2.2.1 p l hl2).1), hs.fq (fun b hb => by omega)⟩
                rw [ek] at hl2
                cases hl2
                refine ⟨fun j hj => by rw [sI_ne _ _ (by omega), e110]; exact p2 j hj, fun n hn k hk => ?_⟩
                rw [sI_ne _ _ (by omega), u2 _ (by omega)]
                have := h5 n hn k hk
                rw [Nat.zero_add] at this
                exact this
              · omega
          · omega
      · refine tr_bipush (v := -4) dX8_keep_21 (by decide) ?_
        exact tr_iret dX8_keep_23 (by first | exact trivial | rfl) (pm_same h (by simp only [S_keep, hx]; rw [if_pos h3]))
    · cases h2
theorem r_on (h : MI μ σ) (hW : WI σ) : cp X (d + 2) kX8_on [.ref 99, .int x] μ (PM μ (S_on σ x)) := by
  have hm := h.2.2.1
  have h10 := h.2.2.2.1
  refine cp_of ok_X8_on (L := [.ref 99, .int x, .float 0]) rfl ?_
  refine tr_iload_n dX8_on_0 rfl ?_
  refine tr_iconst (v := nI 0) dX8_on_1 (by decide) ?_
  refine tr_iconst (v := nI 2) dX8_on_2 (by decide) ?_
  -- at 3: .invokestatic 73
  refine tr_Si (As := [_, _, _]) dX8_on_3 fm_RX8_73 rfl rfl (Nat.le_of_ble_eq_true rfl) (r_in) (fun v μ1 ⟨e1, e2⟩ => ?_)
  subst μ1; subst v
  rw [in_ix x (by omega)]
  cases hx : ixV x 3 with
  | none =>
    refine tr_ifb1 (tgt := 11) dX8_on_6 (by decide) (fun h2 => ?_) (fun h2 => ?_)
    · cases h2
    · refine tr_iconst (v := -1) dX8_on_9 (by decide) ?_
      exact tr_iret dX8_on_10 (by first | exact trivial | rfl) (pm_same h (by simp only [S_on, hx]))
  | some q =>
    obtain ⟨rfl, hq⟩ := ixV_some (by omega) hx
    obtain ⟨k1, k2⟩ := h.2.2.2.2.2.1 q hq
    refine tr_ifb1 (tgt := 11) dX8_on_6 (by decide) (fun h2 => ?_) (fun h2 => ?_)
    · refine tr_aload_n dX8_on_11 rfl ?_
      refine tr_getR dX8_on_12 fg_RX8_47 (by first | assumption | decide) (by first | assumption | rfl) rfl (by omega) ?_
      refine tr_iload_n dX8_on_15 rfl ?_
      refine tr_iald dX8_on_16 (by first | assumption | decide) (by first | assumption | rfl) rfl (by omega) (by omega) (by first | assumption | rfl) ?_
      -- at 17: .ifCond .ge 9
      cases ho : sK σ q with
      | none =>
        refine tr_if_ge (tgt := 26) dX8_on_17 (by decide) (fun h3 => ?_) (fun h3 => ?_)
        · exact absurd h3 (by decide)
        · refine tr_aload_n dX8_on_20 rfl ?_
          refine tr_iconst (v := nI 1) dX8_on_21 (by decide) ?_
          refine tr_Vi (As := [_]) dX8_on_22 fm_RX8_81 rfl rfl (by first | assumption | decide) (by first | assumption | rfl) (Nat.le_of_ble_eq_true rfl) (r_finds (k := 1) (by omega) h) (fun v μ1 ⟨e1, e2, e3⟩ => ?_)
          exact tr_iret dX8_on_25 (by first | exact trivial | rfl) (pm_e (by simp only [S_on, hx, ho]) e1 e2 e3)
      | some l =>
        have hl := (hW.2.2.2.1 q l ho).1
        obtain ⟨k3, k4⟩ := k2 l ho
        have k5 : μ.1 112 q = nI l.length := by rw [k1, ho]; rfl
        have eS : S_on σ (nI q) = (nI l.length, gL σ l) := by simp only [S_on, hx, ho]
        rw [eS]
        refine tr_if_ge (tgt := 26) dX8_on_17 (by decide) (fun h3 => ?_) (fun h3 => ?_)
        · refine tr_iconst (v := nI 0) dX8_on_26 (by decide) ?_
          refine tr_istore_n_2 dX8_on_27 (by decide) rfl ?_
          -- at 28: .iload_n 2
          refine tw_for (n := 33) (Lf := fun k => [.ref 99, .int (nI q), .int (nI k)]) (P := fun k μ1 => sP (fun b => b = 105) μ μ1 ∧ ∀ j, j < k → μ1.1 105 j = nI (repM l (sS σ) j)) (fun k μ1 hk hP ih => ?_) (fun μ1 hP => ?_) 0 _ (by omega) ⟨sP.rf _ μ, fun j hj => by omega⟩
          · obtain ⟨p1, p2⟩ := hP
            have g : μ1.1 110 (33 * q + k) = nI (repM l (sS σ) k) := by rw [(p1 110 (by omega)).1]; exact k3 k hk
            refine tr_iload_n dX8_on_28 rfl ?_
            refine tr_bipush (v := nI 33) dX8_on_29 (by decide) ?_
            -- at 31: .if_icmp .ge 26
            refine tr_geN (tgt := 57) dX8_on_31 (by decide) (by omega) (by omega) (fun h1 => ?_) (fun h1 => ?_)
            · omega
            · refine tr_aload_n dX8_on_34 rfl ?_
              refine tr_getR dX8_on_35 fg_RX8_26 (by first | assumption | decide) (by first | assumption | rfl) rfl (by omega) ?_
              refine tr_iload_n dX8_on_38 rfl ?_
              refine tr_aload_n dX8_on_39 rfl ?_
              refine tr_getR dX8_on_40 fg_RX8_41 (by first | assumption | decide) (by first | assumption | rfl) rfl (by omega) ?_
              refine tr_bipush (v := nI 33) dX8_on_43 (by decide) ?_
              refine tr_iload_n dX8_on_45 rfl ?_
              first | with_reducible refine tr_imulN dX8_on_46 ?_ | refine tr_imul dX8_on_46 ?_
              refine tr_iload_n dX8_on_47 rfl ?_
              first | with_reducible refine tr_iaddN dX8_on_48 ?_ | refine tr_iadd dX8_on_48 ?_
              refine tr_iald dX8_on_49 (by first | assumption | decide) (by first | assumption | rfl) rfl (by omega) (by omega) (by first | assumption | rfl) ?_
              refine tr_iast dX8_on_50 (by first | assumption | decide) (by first | assumption | rfl) rfl (by omega) (by omega) ?_
              first | with_reducible refine tr_iincN_2 dX8_on_51 (by decide) rfl ?_ | refine tr_iinc_2 dX8_on_51 (by decide) rfl ?_
              refine tr_goto (tgt := 28) dX8_on_54 (by decide) ?_
              -- at 28: .iload_n 2
              refine ih _ ⟨p1.put _ rfl, fun i hi => ?_⟩
              rw [sI_same]
              by_cases e : i = k
              · subst e; rw [pk_us]
              · rw [pk_un e]; exact p2 i (by omega)
          · obtain ⟨p1, p2⟩ := hP
            refine tr_iload_n dX8_on_28 rfl ?_
            refine tr_bipush (v := nI 33) dX8_on_29 (by decide) ?_
            -- at 31: .if_icmp .ge 26
            refine tr_geN (tgt := 57) dX8_on_31 (by decide) (by omega) (by omega) (fun h1 => ?_) (fun h1 => ?_)
            · refine tr_iconst (v := nI 0) dX8_on_57 (by decide) ?_
              refine tr_istore_n_2 dX8_on_58 (by decide) rfl ?_
              -- at 59: .iload_n 2
              refine tw_for (n := 720) (Lf := fun k => [.ref 99, .int (nI q), .int (nI k)]) (P := fun k μ2 => sP (fun b => b = 109) μ1 μ2 ∧ ∀ j, j < k → μ2.1 109 j = μ.1 111 (720 * q + j)) (fun k μ2 hk hP ih => ?_) (fun μ2 hP => ?_) 0 _ (by omega) ⟨sP.rf _ μ1, fun j hj => by omega⟩
              · obtain ⟨u1, u2⟩ := hP
                have g : μ2.1 111 (720 * q + k) = μ.1 111 (720 * q + k) := by rw [(u1 111 (by omega)).1, (p1 111 (by omega)).1]
                refine tr_iload_n dX8_on_59 rfl ?_
                refine tr_aload_n dX8_on_60 rfl ?_
                refine tr_getR dX8_on_61 fg_RX8_38 (by first | assumption | decide) (by first | assumption | rfl) rfl (by omega) ?_
                refine tr_alen dX8_on_64 (by first | assumption | decide) (by first | assumption | rfl) (by decide) ?_
                -- at 65: .if_icmp .ge 29
                refine tr_geN (tgt := 94) dX8_on_65 (by decide) (by omega) (by omega) (fun h4 => ?_) (fun h4 => ?_)
                · omega
                · refine tr_aload_n dX8_on_68 rfl ?_
                  refine tr_getR dX8_on_69 fg_RX8_38 (by first | assumption | decide) (by first | assumption | rfl) rfl (by omega) ?_
                  refine tr_iload_n dX8_on_72 rfl ?_
                  refine tr_aload_n dX8_on_73 rfl ?_
                  refine tr_getR dX8_on_74 fg_RX8_44 (by first | assumption | decide) (by first | assumption | rfl) rfl (by omega) ?_
                  refine tr_aload_n dX8_on_77 rfl ?_
                  refine tr_getR dX8_on_78 fg_RX8_38 (by first | assumption | decide) (by first | assumption | rfl) rfl (by omega) ?_
                  refine tr_alen dX8_on_81 (by first | assumption | decide) (by first | assumption | rfl) (by decide) ?_
                  refine tr_iload_n dX8_on_82 rfl ?_
                  first | with_reducible refine tr_imulN dX8_on_83 ?_ | refine tr_imul dX8_on_83 ?_
                  refine tr_iload_n dX8_on_84 rfl ?_
                  first | with_reducible refine tr_iaddN dX8_on_85 ?_ | refine tr_iadd dX8_on_85 ?_
                  refine tr_iald dX8_on_86 (by first | assumption | decide) (by first | assumption | rfl) rfl (by omega) (by omega) (by first | assumption | rfl) ?_
                  refine tr_iast dX8_on_87 (by first | assumption | decide) (by first | assumption | rfl) rfl (by omega) (by omega) ?_
                  first | with_reducible refine tr_iincN_2 dX8_on_88 (by decide) rfl ?_ | refine tr_iinc_2 dX8_on_88 (by decide) rfl ?_
                  refine tr_goto (tgt := 59) dX8_on_91 (by decide) ?_
                  -- at 59: .iload_n 2
                  refine ih _ ⟨u1.put _ rfl, fun i hi => ?_⟩
                  rw [sI_same]
                  by_cases e : i = k
                  · subst e; rw [pk_us]
                  · rw [pk_un e]; exact u2 i (by omega)
              · obtain ⟨u1, u2⟩ := hP
                have g : μ2.1 112 q = nI l.length := by rw [(u1 112 (by omega)).1, (p1 112 (by omega)).1]; exact k5
                have e99 : μ2.1 99 = μ.1 99 := (u1 99 (by omega)).1.trans (p1 99 (by omega)).1
                have f99 : μ2.2 99 = μ.2 99 := (u1 99 (by omega)).2.trans (p1 99 (by omega)).2
                have hs := (((p1.wide (P' := fun b => b = 99 ∨ b = 105 ∨ b = 109) (fun b hb => Or.inr (Or.inl hb))).trans (u1.wide (fun b hb => Or.inr (Or.inr hb))))).put (a := 99) (upd (μ2.1 99) 10 (nI l.length)) (Or.inl rfl)
                refine tr_iload_n dX8_on_59 rfl ?_
                refine tr_aload_n dX8_on_60 rfl ?_
                refine tr_getR dX8_on_61 fg_RX8_38 (by first | assumption | decide) (by first | assumption | rfl) rfl (by omega) ?_
                refine tr_alen dX8_on_64 (by first | assumption | decide) (by first | assumption | rfl) (by decide) ?_
                -- at 65: .if_icmp .ge 29
                refine tr_geN (tgt := 94) dX8_on_65 (by decide) (by omega) (by omega) (fun h4 => ?_) (fun h4 => ?_)
                · refine tr_aload_n dX8_on_94 rfl ?_
                  refine tr_aload_n dX8_on_95 rfl ?_
                  refine tr_getR dX8_on_96 fg_RX8_47 (by first | assumption | decide) (by first | assumption | rfl) rfl (by omega) ?_
                  refine tr_iload_n dX8_on_99 rfl ?_
                  refine tr_iald dX8_on_100 (by first | assumption | decide) (by first | assumption | rfl) rfl (by omega) (by omega) (by first | assumption | rfl) ?_
                  refine tr_putI dX8_on_101 fp_RX8_111 (by first | assumption | decide) (by first | assumption | rfl) rfl ?_
                  -- at 104: .aload_n 0
                  have g10 : (sI μ2 99 (upd (μ2.1 99) 10 (nI l.length))).1 99 10 = nI l.length := by rw [sI_same, pk_us]
                  refine tr_aload_n dX8_on_104 rfl ?_
                  refine tr_getI dX8_on_105 fg_RX8_111 (by first | assumption | decide) (by first | assumption | rfl) rfl (by first | assumption | rfl) ?_
                  -- at 108: .ireturn
                  refine tr_iret dX8_on_108 (by first | exact trivial | rfl) ⟨rfl, h.deed hs (fun i hi => by rw [sI_ne _ _ (by omega), (u1 105 (by omega)).1]; exact p2 i hi) (by rw [sI_same, e99]) f99 (fun n hn k hk => ?_), hs.fq (fun b hb => by omega)⟩
                  rw [sI_ne _ _ (by omega), Nat.zero_add, u2 _ (by omega)]
                  exact k4 n hn k hk
                · omega
            · omega
        · exact absurd (nI_pos' (show l.length < 2 ^ 31 by omega)) h3
    · cases h2
theorem r_byteAt (hj : j < 4) (hp : p < 1000) (hX : RX 60 μ 103 104 j (some (n, f))) : cp X (d + 1) kX8_byteAt [.ref 99, .int (nI j), .int (nI p)] μ (qi (fun v μ' => μ' = μ ∧ v = btM n f p)) := by
  have r1 := hX.1
  have r2 := hX.2.1
  refine cp_of ok_X8_byteAt (L := [.ref 99, .int (nI j), .int (nI p)]) rfl ?_
  refine tr_iload_n dX8_byteAt_0 rfl ?_
  refine tr_aload_n dX8_byteAt_1 rfl ?_
  refine tr_getR dX8_byteAt_2 fg_RX8_19 (by first | assumption | decide) (by first | assumption | rfl) rfl (by omega) ?_
  refine tr_iload_n dX8_byteAt_5 rfl ?_
  refine tr_iald dX8_byteAt_6 (by first | assumption | decide) (by first | assumption | rfl) rfl (by omega) (by omega) (by first | assumption | rfl) ?_
  -- at 7: .if_icmp .ge 17
  refine tr_geN (tgt := 24) dX8_byteAt_7 (by decide) (by omega) (by omega) (fun h1 => ?_) (fun h1 => ?_)
  · refine tr_sipush (v := -1000) dX8_byteAt_24 (by decide) ?_
    -- at 27: .ireturn
    refine tr_iret dX8_byteAt_27 (by first | exact trivial | rfl) ⟨rfl, by rw [btM, if_neg (by omega)]⟩
  · have r3 := hX.2.2 p h1
    refine tr_aload_n dX8_byteAt_10 rfl ?_
    refine tr_getR dX8_byteAt_11 fg_RX8_22 (by first | assumption | decide) (by first | assumption | rfl) rfl (by omega) ?_
    refine tr_bipush (v := nI 60) dX8_byteAt_14 (by decide) ?_
    refine tr_iload_n dX8_byteAt_16 rfl ?_
    first | with_reducible refine tr_imulN dX8_byteAt_17 ?_ | refine tr_imul dX8_byteAt_17 ?_
    refine tr_iload_n dX8_byteAt_18 rfl ?_
    first | with_reducible refine tr_iaddN dX8_byteAt_19 ?_ | refine tr_iadd dX8_byteAt_19 ?_
    refine tr_bald dX8_byteAt_20 (by first | assumption | decide) (by first | assumption | rfl) rfl (by omega) (by omega) (by first | assumption | rfl) ?_
    refine tr_goto (tgt := 27) dX8_byteAt_21 (by decide) ?_
    -- at 27: .ireturn
    refine tr_iret dX8_byteAt_27 (by first | exact trivial | rfl) ⟨rfl, by rw [btM, if_pos h1]⟩
theorem l_skips (hj : j < 4) (hX : RX 60 μ 103 104 j (some (n, f))) {v2 : Int32} : ∀ (m p : Nat), p + m = n → tw X (d + 1) kX8_skips (qi (fun v μ' => μ' = μ ∧ v = nI (skS n f p))) 2 [.ref 99, .int (nI j), .int v2, .int (nI p)] [] μ
  | m, p, hpm => by
    have r2 := hX.2.1
    refine tr_aload_n dX8_skips_2 rfl ?_
    refine tr_iload_n dX8_skips_3 rfl ?_
    refine tr_iload_n dX8_skips_4 rfl ?_
    -- at 5: .invokevirtual 98
    refine tr_Vi (As := [_, _]) dX8_skips_5 fm_RX8_98 rfl rfl (by first | assumption | decide) (by first | assumption | rfl) (Nat.le_of_ble_eq_true rfl) (r_byteAt hj (by omega) hX) (fun v μ1 ⟨e1, e2⟩ => ?_)
    subst μ1; subst v
    refine tr_bipush (v := nI 32) dX8_skips_8 (by decide) ?_
    -- at 10: .if_icmp .ne 9
    refine tr_icmp_ne (tgt := 19) dX8_skips_10 (by decide) (fun h1 => ?_) (fun h1 => ?_)
    · refine tr_iload_n dX8_skips_19 rfl ?_
      -- at 20: .ireturn
      refine tr_iret dX8_skips_20 (by first | exact trivial | rfl) ⟨rfl, by
        rw [skS_stop (fun q => h1 ?_)]
        show btM n f p = 32
        rw [btM, if_pos q.1, q.2]⟩
    · have hq : p < n ∧ f p = 32 := by
        by_cases e : p < n
        · rw [btM, if_pos e] at h1; exact ⟨e, h1⟩
        · rw [btM, if_neg e] at h1; exact absurd h1 (by decide)
      first | with_reducible refine tr_iincN_3 dX8_skips_13 (by decide) rfl ?_ | refine tr_iinc_3 dX8_skips_13 (by decide) rfl ?_
      refine tr_goto (tgt := 2) dX8_skips_16 (by decide) ?_
      -- at 2: .aload_n 0
      rw [skS_go hq.1 hq.2]
      exact l_skips hj hX (m - 1) (p + 1) (by omega)
  termination_by m => m
theorem r_skips (hj : j < 4) (hp : p ≤ n) (hX : RX 60 μ 103 104 j (some (n, f))) : cp X (d + 2) kX8_skips [.ref 99, .int (nI j), .int (nI p)] μ (qi (fun v μ' => μ' = μ ∧ v = nI (skS n f p))) := by
  refine cp_of ok_X8_skips (L := [.ref 99, .int (nI j), .int (nI p), .float 0]) rfl ?_
  refine tr_iload_n dX8_skips_0 rfl ?_
  refine tr_istore_n_3 dX8_skips_1 (by decide) rfl ?_
  -- at 2: .aload_n 0
  exact l_skips hj hX (n - p) p (by omega)
theorem r_kindBy : cp X (d + 1) kX8_kindBy [.int x] μ (qi (fun v μ' => μ' = μ ∧ v = kdR (kdV x))) := by
  refine cp_of ok_X8_kindBy (L := [.int x]) rfl ?_
  refine tr_iload_n dX8_kindBy_0 rfl ?_
  refine tr_bipush (v := nI 102) dX8_kindBy_1 (by decide) ?_
  -- at 3: .if_icmp .ne 7
  refine tr_icmp_ne (tgt := 10) dX8_kindBy_3 (by decide) (fun h1 => ?_) (fun h1 => ?_)
  · refine tr_iload_n dX8_kindBy_10 rfl ?_
    refine tr_bipush (v := nI 115) dX8_kindBy_11 (by decide) ?_
    -- at 13: .if_icmp .ne 7
    refine tr_icmp_ne (tgt := 20) dX8_kindBy_13 (by decide) (fun h2 => ?_) (fun h2 => ?_)
    · refine tr_iload_n dX8_kindBy_20 rfl ?_
      refine tr_bipush (v := nI 107) dX8_kindBy_21 (by decide) ?_
      -- at 23: .if_icmp .ne 7
      refine tr_icmp_ne (tgt := 30) dX8_kindBy_23 (by decide) (fun h3 => ?_) (fun h3 => ?_)
      · refine tr_iload_n dX8_kindBy_30 rfl ?_
        refine tr_bipush (v := nI 98) dX8_kindBy_31 (by decide) ?_
        -- at 33: .if_icmp .ne 7
        refine tr_icmp_ne (tgt := 40) dX8_kindBy_33 (by decide) (fun h4 => ?_) (fun h4 => ?_)
        · refine tr_iload_n dX8_kindBy_40 rfl ?_
          refine tr_bipush (v := nI 116) dX8_kindBy_41 (by decide) ?_
          -- at 43: .if_icmp .ne 7
          refine tr_icmp_ne (tgt := 50) dX8_kindBy_43 (by decide) (fun h5 => ?_) (fun h5 => ?_)
          · refine tr_iload_n dX8_kindBy_50 rfl ?_
            refine tr_bipush (v := nI 113) dX8_kindBy_51 (by decide) ?_
            -- at 53: .if_icmp .ne 7
            refine tr_icmp_ne (tgt := 60) dX8_kindBy_53 (by decide) (fun h6 => ?_) (fun h6 => ?_)
            · refine tr_bipush (v := -9) dX8_kindBy_60 (by decide) ?_
              -- at 62: .ireturn
              refine tr_iret dX8_kindBy_62 (by first | exact trivial | rfl) ⟨rfl, by rw [kdV, if_neg (show ¬ x = 102 from h1), if_neg (show ¬ x = 115 from h2), if_neg (show ¬ x = 107 from h3), if_neg (show ¬ x = 98 from h4), if_neg (show ¬ x = 116 from h5), if_neg (show ¬ x = 113 from h6)]; rfl⟩
            · refine tr_iconst (v := nI 5) dX8_kindBy_56 (by decide) ?_
              refine tr_goto (tgt := 62) dX8_kindBy_57 (by decide) ?_
              -- at 62: .ireturn
              refine tr_iret dX8_kindBy_62 (by first | exact trivial | rfl) ⟨rfl, by rw [kdV, if_neg (show ¬ x = 102 from h1), if_neg (show ¬ x = 115 from h2), if_neg (show ¬ x = 107 from h3), if_neg (show ¬ x = 98 from h4), if_neg (show ¬ x = 116 from h5), if_pos (show x = 113 from h6)]; rfl⟩
          · refine tr_iconst (v := nI 4) dX8_kindBy_46 (by decide) ?_
            refine tr_goto (tgt := 62) dX8_kindBy_47 (by decide) ?_
            -- at 62: .ireturn
            refine tr_iret dX8_kindBy_62 (by first | exact trivial | rfl) ⟨rfl, by rw [kdV, if_neg (show ¬ x = 102 from h1), if_neg (show ¬ x = 115 from h2), if_neg (show ¬ x = 107 from h3), if_neg (show ¬ x = 98 from h4), if_pos (show x = 116 from h5)]; rfl⟩
        · refine tr_iconst (v := nI 3) dX8_kindBy_36 (by decide) ?_
          refine tr_goto (tgt := 62) dX8_kindBy_37 (by decide) ?_
          -- at 62: .ireturn
          refine tr_iret dX8_kindBy_62 (by first | exact trivial | rfl) ⟨rfl, by rw [kdV, if_neg (show ¬ x = 102 from h1), if_neg (show ¬ x = 115 from h2), if_neg (show ¬ x = 107 from h3), if_pos (show x = 98 from h4)]; rfl⟩
      · refine tr_iconst (v := nI 2) dX8_kindBy_26 (by decide) ?_
        refine tr_goto (tgt := 62) dX8_kindBy_27 (by decide) ?_
        -- at 62: .ireturn
        refine tr_iret dX8_kindBy_62 (by first | exact trivial | rfl) ⟨rfl, by rw [kdV, if_neg (show ¬ x = 102 from h1), if_neg (show ¬ x = 115 from h2), if_pos (show x = 107 from h3)]; rfl⟩
    · refine tr_iconst (v := nI 1) dX8_kindBy_16 (by decide) ?_
      refine tr_goto (tgt := 62) dX8_kindBy_17 (by decide) ?_
      -- at 62: .ireturn
      refine tr_iret dX8_kindBy_62 (by first | exact trivial | rfl) ⟨rfl, by rw [kdV, if_neg (show ¬ x = 102 from h1), if_pos (show x = 115 from h2)]; rfl⟩
  · refine tr_iconst (v := nI 0) dX8_kindBy_6 (by decide) ?_
    refine tr_goto (tgt := 62) dX8_kindBy_7 (by decide) ?_
    -- at 62: .ireturn
    refine tr_iret dX8_kindBy_62 (by first | exact trivial | rfl) ⟨rfl, by rw [kdV, if_pos (show x = 102 from h1)]; rfl⟩
end M6
