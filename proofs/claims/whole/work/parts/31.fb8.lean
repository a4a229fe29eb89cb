-- ===== FlapBoard: by turns =====
def mxN (g : Nat → Nat) : Nat → Nat
  | 0 => 0
  | k + 1 => max (mxN g k) (g k)
def mnN (b : Nat) (g : Nat → Nat) : Nat → Nat
  | 0 => b
  | k + 1 => min (mnN b g k) (g k)
theorem mxN_ge (g : Nat → Nat) : ∀ n k, k < n → g k ≤ mxN g n
  | 0, k, h => by omega
  | n + 1, k, h => by
    rw [mxN]
    by_cases e : k = n
    · subst e; omega
    · have := mxN_ge g n k (by omega); omega
theorem mxN_le (g : Nat → Nat) (x : Nat) : ∀ n, (∀ k, k < n → g k ≤ x) → mxN g n ≤ x
  | 0, _ => Nat.zero_le x
  | n + 1, h => by
    have h1 := mxN_le g x n (fun k hk => h k (by omega))
    have h2 := h n (by omega)
    rw [mxN]; omega
theorem mnN_le (b : Nat) (g : Nat → Nat) : ∀ n, mnN b g n ≤ b ∧ ∀ k, k < n → mnN b g n ≤ g k
  | 0 => ⟨Nat.le_refl b, fun k h => by omega⟩
  | n + 1 => by
    have ⟨h1, h2⟩ := mnN_le b g n
    rw [mnN]
    refine ⟨by omega, fun k hk => ?_⟩
    by_cases e : k = n
    · subst e; omega
    · have := h2 k (by omega); omega
theorem mnN_ge (b : Nat) (g : Nat → Nat) (x : Nat) (hb : x ≤ b) : ∀ n, (∀ k, k < n → x ≤ g k) → x ≤ mnN b g n
  | 0, _ => hb
  | n + 1, h => by
    have h1 := mnN_ge b g x hb n (fun k hk => h k (by omega))
    have h2 := h n (by omega)
    rw [mnN]; omega
def aiM (c : NF) (k : Nat) : NF := nu c (11 + k / 10) (k % 10)
def ansM (c : NF) : Nat := mnN 61 (fun k => tM 61 (aiM c k)) (10 * c 18)
def dueV (b : Bool) (c : NF) (k : Nat) : Nat := if b = true then ansM (aiM c k) else tM 61 (aiM c k)
def duM (b : Bool) (c : NF) : Nat := mxN (dueV b c) (10 * c 18)
def S_duel (σ : SG) (w : Int32) : Int32 × SG := match ixV w 3 with
  | none => (-1, σ)
  | some q => if nowM σ 18 = 0 then (-4, σ) else if q = 0 then (nI (tM 61 (nowM σ)), σ) else (nI (duM (decide (q = 2)) (nowM σ)), σ)
theorem aiM_at (c : NF) {i q : Nat} (hq : q < 10) : aiM c (10 * i + q) = nu c (11 + i) q := by
  unfold aiM
  rw [show (10 * i + q) / 10 = i by omega, show (10 * i + q) % 10 = q by omega]
theorem ansM_le (c : NF) : ansM c ≤ 61 := (mnN_le _ _ _).1
theorem dueV_le (b : Bool) (c : NF) (k : Nat) : dueV b c k ≤ 61 := by
  unfold dueV
  split
  · exact ansM_le _
  · exact tM_le _ _
theorem ms_le : ∀ s, s < 63 → ∀ L, L < 64 → (nI s ≤ nI L - 1 ↔ s + 1 ≤ L) := by decide +kernel
theorem ms_60 : ∀ L, L < 64 → (nI L - 1 ≤ nI 60 ↔ L ≤ 61) := by decide +kernel
theorem ms_max : ∀ L, L < 64 → ∀ s, s < 63 → (if nI L - 1 < nI s then nI s else nI L - 1) = nI (max L (s + 1)) - 1 := by decide +kernel
theorem nI_p1 {k : Nat} (h : k < 100) : nI (k + 1) - 1 = nI k := by
  have : ∀ k, k < 100 → nI (k + 1) - 1 = nI k := by decide +kernel
  exact this k h
abbrev pA (b : Nat) : Prop := 15 ≤ b ∧ b < 20
section F8
variable {X : Nat × (Nat → Int32)} {d : Nat} {μ : am_M} {σ : SG} {r x y z w : Int32} {i j n : Nat} {f : Nat → Int32} {c : NF} {L : Nat}
theorem l_sb {Q : Option Value → am_M → Prop} {o : Nat} (hw : wfc c) (hL : L < 64) (ho : o < 10) : ∀ (m i s : Nat) (μ : am_M), i + m = c 18 → BR μ 20 c → ansM c ≤ s → s ≤ 61 → (∀ q, q < i → s ≤ tM 61 (nu c (11 + q) ((c (4 + q) + o) % 10))) → (∀ s' μ' v, ansM c ≤ s' → s' ≤ s → (s' + 1 ≤ L ∨ ∀ q, q < c 18 → s' ≤ tM 61 (nu c (11 + q) ((c (4 + q) + o) % 10))) → sP pA μ μ' → BR μ' 20 c → tw X (d + 4) kX7_soonestByAiming Q 89 [.ref 2, .int (nI L - 1), .int (nI s'), .int (nI o), v] [] μ') → tw X (d + 4) kX7_soonestByAiming Q 19 [.ref 2, .int (nI L - 1), .int (nI s), .int (nI o), .int (nI i)] [] μ
  | m, i, s, μ, him, hr, hA, h61, hB, hQ => by
    have hw1 := hw.1
    have r4 := hr.1
    refine tr_iload dX7_soonestByAiming_19 rfl ?_
    refine tr_aload_n dX7_soonestByAiming_21 rfl ?_
    refine tr_getR dX7_soonestByAiming_22 fg_RX7_34 (by first | assumption | decide) (by first | assumption | rfl) rfl (by omega) ?_
    refine tr_getI dX7_soonestByAiming_25 fg_RX7_149 (by first | assumption | decide) (by first | assumption | rfl) rfl (by first | assumption | rfl) ?_
    -- at 28: .if_icmp .ge 61
    refine tr_geN (tgt := 89) dX7_soonestByAiming_28 (by decide) (by omega) (by omega) (fun h1 => ?_) (fun h1 => ?_)
    · exact hQ s μ _ hA (Nat.le_refl s) (Or.inr (fun q hq => hB q (by omega))) (sP.rf _ μ) hr
    · obtain ⟨q1, q2, q3, q4⟩ := hr.2.2.2.2.2 i h1
      obtain ⟨w1, w2, w3, w4⟩ := hw.2.2.2 i (by omega)
      refine tr_iload_n dX7_soonestByAiming_31 rfl ?_
      refine tr_iload_n dX7_soonestByAiming_32 rfl ?_
      -- at 33: .if_icmp .le 56
      refine tr_icmp_le (tgt := 89) dX7_soonestByAiming_33 (by decide) (fun h2 => ?_) (fun h2 => ?_)
      · exact hQ s μ _ hA (Nat.le_refl s) (Or.inl ((ms_le s (by omega) L hL).mp h2)) (sP.rf _ μ) hr
      · refine tr_aload_n dX7_soonestByAiming_36 rfl ?_
        refine tr_getR dX7_soonestByAiming_37 fg_RX7_31 (by first | assumption | decide) (by first | assumption | rfl) rfl (by omega) ?_
        refine tr_aload_n dX7_soonestByAiming_40 rfl ?_
        refine tr_getR dX7_soonestByAiming_41 fg_RX7_34 (by first | assumption | decide) (by first | assumption | rfl) rfl (by omega) ?_
        -- at 44: .invokevirtual 142
        refine tr_Vv (As := [_]) dX7_soonestByAiming_44 fm_RX7_142 rfl rfl (by first | assumption | decide) (by first | assumption | rfl) (Nat.le_of_ble_eq_true rfl) (c_become (d := d + 3) isB_15 isB_20 (by omega) hr hw) (fun μ1 ⟨e1, e2⟩ => ?_)
        have hs1 := sP.of (P := pA) e1 (fun b hb => by simp at hb; unfold pA; omega)
        have hr1 : BR μ1 20 c := hr.keep (fun b b1 b2 => (hs1 b (by unfold pA; omega)).1)
        obtain ⟨p1, p2, p3, p4⟩ := hr1.2.2.2.2.2 i h1
        refine tr_aload_n dX7_soonestByAiming_47 rfl ?_
        refine tr_getR dX7_soonestByAiming_48 fg_RX7_31 (by first | assumption | decide) (by first | assumption | rfl) rfl (by omega) ?_
        refine tr_getR dX7_soonestByAiming_51 fg_RX7_173 (by first | assumption | decide) (by first | assumption | rfl) rfl (by omega) ?_
        refine tr_iload dX7_soonestByAiming_54 rfl ?_
        refine tr_aload_n dX7_soonestByAiming_56 rfl ?_
        refine tr_getR dX7_soonestByAiming_57 fg_RX7_34 (by first | assumption | decide) (by first | assumption | rfl) rfl (by omega) ?_
        refine tr_getR dX7_soonestByAiming_60 fg_RX7_170 (by first | assumption | decide) (by first | assumption | rfl) rfl (by omega) ?_
        refine tr_iload dX7_soonestByAiming_63 rfl ?_
        refine tr_iald dX7_soonestByAiming_65 (by first | assumption | decide) (by first | assumption | rfl) rfl (by omega) (by omega) (by first | assumption | rfl) ?_
        refine tr_iload_n dX7_soonestByAiming_66 rfl ?_
        first | with_reducible refine tr_iaddN dX7_soonestByAiming_67 ?_ | refine tr_iadd dX7_soonestByAiming_67 ?_
        refine tr_bipush (v := nI 10) dX7_soonestByAiming_68 (by decide) ?_
        first | with_reducible refine tr_iremN dX7_soonestByAiming_70 (by omega) (by omega) (by omega) ?_ | refine tr_irem dX7_soonestByAiming_70 (by decide) ?_
        refine tr_iast dX7_soonestByAiming_71 (by first | assumption | decide) (by first | assumption | rfl) rfl (by omega) (by omega) ?_
        -- at 72: .aload_n 0
        have hs2 := hs1.put (a := 18) (upd (μ1.1 18) i (nI ((c (4 + i) + o) % 10))) (by unfold pA; omega)
        have hr2 : BR (sI μ1 18 (upd (μ1.1 18) i (nI ((c (4 + i) + o) % 10)))) 15 (nu c (11 + i) ((c (4 + i) + o) % 10)) := e2.setGoal (by omega) hw1
        generalize sI μ1 18 (upd (μ1.1 18) i (nI ((c (4 + i) + o) % 10))) = μ2 at hs2 hr2 ⊢
        refine tr_aload_n dX7_soonestByAiming_72 rfl ?_
        refine tr_getR dX7_soonestByAiming_73 fg_RX7_31 (by first | assumption | decide) (by first | assumption | rfl) rfl (by omega) ?_
        refine tr_iload_n dX7_soonestByAiming_76 rfl ?_
        refine tr_iconst (v := nI 1) dX7_soonestByAiming_77 (by decide) ?_
        -- at 78: .isub
        refine tr_isub dX7_soonestByAiming_78 ?_
        refine tr_Vi (As := [_]) dX7_soonestByAiming_79 fm_RX7_218 rfl rfl (by first | assumption | decide) (by first | assumption | rfl) (Nat.le_of_ble_eq_true rfl) (c_ticks (d := d) (N := s) (by omega) isB_15 hr2 (hw.goal (by omega) (Nat.mod_lt _ (by omega)))) (fun v μ3 ⟨e5, e6, e7, e8⟩ => ?_)
        subst v
        have hs3 := hs2.trans (sP.of (P := pA) e5 (fun b hb => by simp at hb; unfold pA; omega))
        have hr3 : BR μ3 20 c := hr.keep (fun b b1 b2 => (hs3 b (by unfold pA; omega)).1)
        have hmin := tM_min s 61 (nu c (11 + i) ((c (4 + i) + o) % 10)) h61
        have hans : ansM c ≤ tM 61 (nu c (11 + i) ((c (4 + i) + o) % 10)) := by
          have := (mnN_le 61 (fun k => tM 61 (aiM c k)) (10 * c 18)).2 (10 * i + (c (4 + i) + o) % 10) (by omega)
          rw [aiM_at c (Nat.mod_lt _ (by omega))] at this
          exact this
        refine tr_istore_n_2 dX7_soonestByAiming_82 (by decide) rfl ?_
        first | with_reducible refine tr_iincN_4 dX7_soonestByAiming_83 (by decide) rfl ?_ | refine tr_iinc_4 dX7_soonestByAiming_83 (by decide) rfl ?_
        refine tr_goto (tgt := 19) dX7_soonestByAiming_86 (by decide) ?_
        -- at 19: .iload 4
        refine l_sb hw hL ho (m - 1) (i + 1) (tM s (nu c (11 + i) ((c (4 + i) + o) % 10))) μ3 (by omega) hr3 (by omega) (by omega) (fun q hq => ?_) (fun s' μ' v a1 a2 a3 a4 a5 => hQ s' μ' v a1 (by omega) a3 (hs3.trans a4) a5)
        by_cases e : q = i
        · subst e; omega
        · have := hB q (by omega); omega
  termination_by m => m
theorem l_sa {m0 : am_M} (hw : wfc c) (hL : L < 64) : ∀ (m o s : Nat) (v4 : Value) (μ : am_M), o + m = 10 → BR μ 20 c → ansM c ≤ s → s ≤ 61 → (∀ p, p < o → ∀ q, q < c 18 → s ≤ tM 61 (nu c (11 + q) ((c (4 + q) + p) % 10))) → sP pA m0 μ → tw X (d + 4) kX7_soonestByAiming (qi (fun v μ' => sP pA m0 μ' ∧ ∃ s, v = nI s ∧ s ≤ 61 ∧ ansM c ≤ s ∧ (s = ansM c ∨ s + 1 ≤ L))) 5 [.ref 2, .int (nI L - 1), .int (nI s), .int (nI o), v4] [] μ
  | m, o, s, v4, μ, hom, hr, hA, h61, hB, hs => by
    have hw1 := hw.1
    refine tr_iload_n dX7_soonestByAiming_5 rfl ?_
    refine tr_bipush (v := nI 10) dX7_soonestByAiming_6 (by decide) ?_
    -- at 8: .if_icmp .ge 87
    refine tr_geN (tgt := 95) dX7_soonestByAiming_8 (by decide) (by omega) (by omega) (fun h1 => ?_) (fun h1 => ?_)
    · obtain rfl : o = 10 := by omega
      have hle : s ≤ ansM c := by
        refine mnN_ge 61 _ s h61 _ (fun k hk => ?_)
        have hi : k / 10 < c 18 := by omega
        obtain ⟨w1, w2, w3, w4⟩ := hw.2.2.2 (k / 10) (by omega)
        have := hB ((k % 10 + 10 - c (4 + k / 10)) % 10) (Nat.mod_lt _ (by omega)) (k / 10) hi
        rw [show (c (4 + k / 10) + (k % 10 + 10 - c (4 + k / 10)) % 10) % 10 = k % 10 by omega] at this
        exact this
      refine tr_iload_n dX7_soonestByAiming_95 rfl ?_
      -- at 96: .ireturn
      refine tr_iret dX7_soonestByAiming_96 (by first | exact trivial | rfl) ⟨hs, s, rfl, h61, hA, Or.inl (by omega)⟩
    · refine tr_iload_n dX7_soonestByAiming_11 rfl ?_
      refine tr_iload_n dX7_soonestByAiming_12 rfl ?_
      -- at 13: .if_icmp .le 82
      refine tr_icmp_le (tgt := 95) dX7_soonestByAiming_13 (by decide) (fun h2 => ?_) (fun h2 => ?_)
      · refine tr_iload_n dX7_soonestByAiming_95 rfl ?_
        -- at 96: .ireturn
        refine tr_iret dX7_soonestByAiming_96 (by first | exact trivial | rfl) ⟨hs, s, rfl, h61, hA, Or.inr ((ms_le s (by omega) L hL).mp h2)⟩
      · refine tr_iconst (v := nI 0) dX7_soonestByAiming_16 (by decide) ?_
        refine tr_istore_4 dX7_soonestByAiming_17 (by decide) rfl ?_
        -- at 19: .iload 4
        refine l_sb hw hL h1 (c 18) 0 s μ (by omega) hr hA h61 (fun q hq => by omega) (fun s' μ' v a1 a2 a3 a4 a5 => ?_)
        first | with_reducible refine tr_iincN_3 dX7_soonestByAiming_89 (by decide) rfl ?_ | refine tr_iinc_3 dX7_soonestByAiming_89 (by decide) rfl ?_
        refine tr_goto (tgt := 5) dX7_soonestByAiming_92 (by decide) ?_
        -- at 5: .iload_n 3
        rcases a3 with a3 | a3
        · refine tr_iload_n dX7_soonestByAiming_5 rfl ?_
          refine tr_bipush (v := nI 10) dX7_soonestByAiming_6 (by decide) ?_
          -- at 8: .if_icmp .ge 87
          refine tr_icmp_ge (tgt := 95) dX7_soonestByAiming_8 (by decide) (fun h3 => ?_) (fun h3 => ?_)
          · refine tr_iload_n dX7_soonestByAiming_95 rfl ?_
            -- at 96: .ireturn
            refine tr_iret dX7_soonestByAiming_96 (by first | exact trivial | rfl) ⟨hs.trans a4, s', rfl, by omega, a1, Or.inr a3⟩
          · refine tr_iload_n dX7_soonestByAiming_11 rfl ?_
            refine tr_iload_n dX7_soonestByAiming_12 rfl ?_
            -- at 13: .if_icmp .le 82
            refine tr_icmp_le (tgt := 95) dX7_soonestByAiming_13 (by decide) (fun h4 => ?_) (fun h4 => ?_)
            · refine tr_iload_n dX7_soonestByAiming_95 rfl ?_
              -- at 96: .ireturn
              refine tr_iret dX7_soonestByAiming_96 (by first | exact trivial | rfl) ⟨hs.trans a4, s', rfl, by omega, a1, Or.inr a3⟩
            · exact absurd ((ms_le s' (by omega) L hL).mpr a3) h4
        · refine l_sa hw hL (m - 1) (o + 1) s' v μ' (by omega) a5 a1 (by omega) (fun p hp q hq => ?_) (hs.trans a4)
          by_cases e : p = o
          · subst e; exact a3 q hq
          · have := hB p (by omega) q hq; omega
  termination_by m => m
theorem c_sa (hw : wfc c) (hL : L < 64) (hr : BR μ 20 c) : cp X (d + 5) kX7_soonestByAiming [.ref 2, .int (nI L - 1)] μ (qi (fun v μ' => sP pA μ μ' ∧ ∃ s, v = nI s ∧ s ≤ 61 ∧ ansM c ≤ s ∧ (s = ansM c ∨ s + 1 ≤ L))) := by
  refine cp_of ok_X7_soonestByAiming (L := [.ref 2, .int (nI L - 1), .float 0, .float 0, .float 0]) rfl ?_
  refine tr_bipush (v := nI 61) dX7_soonestByAiming_0 (by decide) ?_
  refine tr_istore_n_2 dX7_soonestByAiming_2 (by decide) rfl ?_
  refine tr_iconst (v := nI 0) dX7_soonestByAiming_3 (by decide) ?_
  refine tr_istore_n_3 dX7_soonestByAiming_4 (by decide) rfl ?_
  -- at 5: .iload_n 3
  exact l_sa hw hL 10 0 61 _ μ (by omega) hr (ansM_le c) (by omega) (fun p hp => by omega) (sP.rf _ μ)
theorem l_lb {Q : Option Value → am_M → Prop} {b : Bool} (hW : WI σ) (hi : i < nowM σ 18) : ∀ (m q L : Nat) (v5 : Value) (μ : am_M), q + m = 10 → CI μ σ → L ≤ 62 → L ≤ duM b (nowM σ) + 1 → (∀ p, p < q → dueV b (nowM σ) (10 * i + p) + 1 ≤ L) → (∀ L' q' v5' μ', L ≤ L' → L' ≤ 62 → L' ≤ duM b (nowM σ) + 1 → (∀ p, p < 10 → dueV b (nowM σ) (10 * i + p) + 1 ≤ L') → sP scr μ μ' → CI μ' σ → tw X (d + 5) kX7_latestByAiming Q 89 [.ref 2, .int (nI (bN b)), .int (nI L' - 1), .int (nI i), .int (nI q'), v5'] [] μ') → tw X (d + 5) kX7_latestByAiming Q 18 [.ref 2, .int (nI (bN b)), .int (nI L - 1), .int (nI i), .int (nI q), v5] [] μ
  | m, q, L, v5, μ, hqm, h, hL, hD, hA, hQ => by
    have hw := hW.now
    have hw1 := hw.1
    refine tr_iload dX7_latestByAiming_18 rfl ?_
    refine tr_bipush (v := nI 10) dX7_latestByAiming_20 (by decide) ?_
    -- at 22: .if_icmp .ge 67
    refine tr_geN (tgt := 89) dX7_latestByAiming_22 (by decide) (by omega) (by omega) (fun h1 => ?_) (fun h1 => ?_)
    · exact hQ L q v5 μ (Nat.le_refl L) hL hD (fun p hp => hA p (by omega)) (sP.rf _ μ) h
    · refine tr_iload_n dX7_latestByAiming_25 rfl ?_
      refine tr_bipush (v := nI 60) dX7_latestByAiming_26 (by decide) ?_
      -- at 28: .if_icmp .gt 61
      refine tr_icmp_gt (tgt := 89) dX7_latestByAiming_28 (by decide) (fun h2 => ?_) (fun h2 => ?_)
      · have h62 : ¬ L ≤ 61 := fun e => absurd ((ms_60 L (by omega)).mpr e) (Int32.not_le.mpr h2)
        exact hQ L q v5 μ (Nat.le_refl L) hL hD (fun p hp => by have := dueV_le b (nowM σ) (10 * i + p); omega) (sP.rf _ μ) h
      · refine tr_aload_n dX7_latestByAiming_31 rfl ?_
        refine tr_getR dX7_latestByAiming_32 fg_RX7_34 (by first | assumption | decide) (by first | assumption | rfl) rfl (by omega) ?_
        refine tr_aload_n dX7_latestByAiming_35 rfl ?_
        refine tr_getR dX7_latestByAiming_36 fg_RX7_28 (by first | assumption | decide) (by first | assumption | rfl) rfl (by omega) ?_
        -- at 39: .invokevirtual 142
        refine tr_Vv (As := [_]) dX7_latestByAiming_39 fm_RX7_142 rfl rfl (by first | assumption | decide) (by first | assumption | rfl) (Nat.le_of_ble_eq_true rfl) (c_become (d := d + 4) isB_20 isB_10 (by omega) h.2.2.2.1 hw) (fun μ1 ⟨e1, e2⟩ => ?_)
        have hs1 := sP.of (P := scr) e1 (fun b hb => by simp at hb; unfold scr; omega)
        refine tr_aload_n dX7_latestByAiming_42 rfl ?_
        refine tr_getR dX7_latestByAiming_43 fg_RX7_34 (by first | assumption | decide) (by first | assumption | rfl) rfl (by omega) ?_
        refine tr_getR dX7_latestByAiming_46 fg_RX7_173 (by first | assumption | decide) (by first | assumption | rfl) rfl (by omega) ?_
        refine tr_iload_n dX7_latestByAiming_49 rfl ?_
        refine tr_iload dX7_latestByAiming_50 rfl ?_
        refine tr_iast dX7_latestByAiming_52 (by first | assumption | decide) (by first | assumption | rfl) rfl (by omega) (by omega) ?_
        -- at 53: .iload_n 1
        have hs2 := hs1.put (a := 23) (upd (μ1.1 23) i (nI q)) (by unfold scr; omega)
        have hr2 : BR (sI μ1 23 (upd (μ1.1 23) i (nI q))) 20 (nu (nowM σ) (11 + i) q) := e2.setGoal (by omega) hw1
        generalize sI μ1 23 (upd (μ1.1 23) i (nI q)) = μ2 at hs2 hr2 ⊢
        have hw2 : wfc (nu (nowM σ) (11 + i) q) := hw.goal (by omega) h1
        have hge : dueV b (nowM σ) (10 * i + q) ≤ duM b (nowM σ) := mxN_ge _ _ _ (by omega)
        have hrest : ∀ s μ3, s ≤ 61 → dueV b (nowM σ) (10 * i + q) ≤ s → (s = dueV b (nowM σ) (10 * i + q) ∨ s + 1 ≤ L) → sP scr μ μ3 → tw X (d + 5) kX7_latestByAiming Q 74 [.ref 2, .int (nI (bN b)), .int (nI L - 1), .int (nI i), .int (nI q), v5] [.int (nI s)] μ3 := by
          intro s μ3 a1 a2 a3 a4
          refine tr_istore_5 dX7_latestByAiming_74 (by decide) rfl ?_
          refine tr_iload_n dX7_latestByAiming_76 rfl ?_
          refine tr_iload dX7_latestByAiming_77 rfl ?_
          -- at 79: .invokestatic 227
          refine tr_Si (As := [_, _]) dX7_latestByAiming_79 fm_RX7_227 rfl rfl (Nat.le_of_ble_eq_true rfl) (c_maxI (d := d + 4)) (fun v μ4 ⟨g1, g2⟩ => ?_)
          subst μ4
          rw [ms_max L (by omega) s (by omega)] at g2
          subst v
          refine tr_istore_n_2 dX7_latestByAiming_82 (by decide) rfl ?_
          first | with_reducible refine tr_iincN_4 dX7_latestByAiming_83 (by decide) rfl ?_ | refine tr_iinc_4 dX7_latestByAiming_83 (by decide) rfl ?_
          refine tr_goto (tgt := 18) dX7_latestByAiming_86 (by decide) ?_
          -- at 18: .iload 4
          refine l_lb hW hi (m - 1) (q + 1) (max L (s + 1)) _ μ3 (by omega) (h.scr a4) (by omega) (by omega) (fun p hp => ?_) (fun L' q' v5' μ' b1 b2 b3 b4 b5 b6 => hQ L' q' v5' μ' (by omega) b2 b3 b4 (a4.trans b5) b6)
          by_cases e : p = q
          · subst e; omega
          · have := hA p (by omega); omega
        refine tr_iload_n dX7_latestByAiming_53 rfl ?_
        -- at 54: .ifCond .eq 11
        refine tr_ifb0 (tgt := 65) dX7_latestByAiming_54 (by decide) (fun h3 => ?_) (fun h3 => ?_)
        · have ed : dueV b (nowM σ) (10 * i + q) = tM 61 (nu (nowM σ) (11 + i) q) := by
            unfold dueV; rw [if_neg (by rw [h3]; decide), aiM_at _ h1]
          refine tr_aload_n dX7_latestByAiming_65 rfl ?_
          refine tr_getR dX7_latestByAiming_66 fg_RX7_34 (by first | assumption | decide) (by first | assumption | rfl) rfl (by omega) ?_
          refine tr_bipush (v := nI 60) dX7_latestByAiming_69 (by decide) ?_
          -- at 71: .invokevirtual 218
          rw [show nI 60 = nI 61 - 1 by decide]
          refine tr_Vi (As := [_]) dX7_latestByAiming_71 fm_RX7_218 rfl rfl (by first | assumption | decide) (by first | assumption | rfl) (Nat.le_of_ble_eq_true rfl) (c_ticks (d := d + 1) (N := 61) (by omega) isB_20 hr2 hw2) (fun v μ3 ⟨e5, e6, e7, e8⟩ => ?_)
          subst v
          exact hrest _ μ3 (tM_le _ _) (by rw [ed]; exact Nat.le_refl _) (Or.inl ed.symm) (hs2.trans (sP.of (P := scr) e5 (fun b hb => by simp at hb; unfold scr; omega)))
        · have ed : dueV b (nowM σ) (10 * i + q) = ansM (nu (nowM σ) (11 + i) q) := by
            unfold dueV; rw [if_pos h3, aiM_at _ h1]
          refine tr_aload_n dX7_latestByAiming_57 rfl ?_
          refine tr_iload_n dX7_latestByAiming_58 rfl ?_
          -- at 59: .invokevirtual 367
          refine tr_Vi (As := [_]) dX7_latestByAiming_59 fm_RX7_367 rfl rfl (by first | assumption | decide) (by first | assumption | rfl) (Nat.le_of_ble_eq_true rfl) (c_sa (d := d) (L := L) hw2 (by omega) hr2) (fun v μ3 ⟨e5, s, e6, e7, e8, e9⟩ => ?_)
          subst v
          refine tr_goto (tgt := 74) dX7_latestByAiming_62 (by decide) ?_
          -- at 74: .istore 5
          exact hrest s μ3 e7 (by rw [ed]; exact e8) (by rw [ed]; exact e9) (hs2.trans (e5.wide (fun b hb => by unfold pA at hb; unfold scr; omega)))
  termination_by m => m
theorem l_la {m0 : am_M} {b : Bool} (hW : WI σ) (h0 : nowM σ 18 ≠ 0) : ∀ (m i L : Nat) (v4 v5 : Value) (μ : am_M), i + m = nowM σ 18 → CI μ σ → L ≤ 62 → L ≤ duM b (nowM σ) + 1 → (∀ k, k < 10 * i → dueV b (nowM σ) k + 1 ≤ L) → sP scr m0 μ → tw X (d + 5) kX7_latestByAiming (qi (fun v μ' => sP scr m0 μ' ∧ v = nI (duM b (nowM σ)))) 4 [.ref 2, .int (nI (bN b)), .int (nI L - 1), .int (nI i), v4, v5] [] μ
  | m, i, L, v4, v5, μ, him, h, hL, hD, hA, hs => by
    have hw1 := hW.now.1
    have r4 := h.2.2.2.1.1
    refine tr_iload_n dX7_latestByAiming_4 rfl ?_
    refine tr_aload_n dX7_latestByAiming_5 rfl ?_
    refine tr_getR dX7_latestByAiming_6 fg_RX7_28 (by first | assumption | decide) (by first | assumption | rfl) rfl (by omega) ?_
    refine tr_getI dX7_latestByAiming_9 fg_RX7_149 (by first | assumption | decide) (by first | assumption | rfl) rfl (by first | assumption | rfl) ?_
    -- at 12: .if_icmp .ge 83
    refine tr_geN (tgt := 95) dX7_latestByAiming_12 (by decide) (by omega) (by omega) (fun h1 => ?_) (fun h1 => ?_)
    · have e : i = nowM σ 18 := by omega
      have hle : duM b (nowM σ) ≤ L - 1 := mxN_le _ _ _ (fun k hk => by have := hA k (by omega); omega)
      have := hA 0 (by omega)
      obtain rfl : L = duM b (nowM σ) + 1 := by omega
      refine tr_iload_n dX7_latestByAiming_95 rfl ?_
      -- at 96: .ireturn
      refine tr_iret dX7_latestByAiming_96 (by first | exact trivial | rfl) ⟨hs, nI_p1 (by omega)⟩
    · refine tr_iconst (v := nI 0) dX7_latestByAiming_15 (by decide) ?_
      refine tr_istore_4 dX7_latestByAiming_16 (by decide) rfl ?_
      -- at 18: .iload 4
      refine l_lb hW h1 10 0 L v5 μ (by omega) h hL hD (fun p hp => by omega) (fun L' q' v5' μ' b1 b2 b3 b4 b5 b6 => ?_)
      first | with_reducible refine tr_iincN_3 dX7_latestByAiming_89 (by decide) rfl ?_ | refine tr_iinc_3 dX7_latestByAiming_89 (by decide) rfl ?_
      refine tr_goto (tgt := 4) dX7_latestByAiming_92 (by decide) ?_
      -- at 4: .iload_n 3
      refine l_la hW h0 (m - 1) (i + 1) L' _ v5' μ' (by omega) b6 b2 b3 (fun k hk => ?_) (hs.trans b5)
      by_cases e : k < 10 * i
      · have := hA k e; omega
      · have := b4 (k - 10 * i) (by omega)
        rw [show 10 * i + (k - 10 * i) = k by omega] at this
        exact this
  termination_by m => m
theorem c_la {b : Bool} (h : CI μ σ) (hW : WI σ) (h0 : nowM σ 18 ≠ 0) : cp X (d + 6) kX7_latestByAiming [.ref 2, .int (nI (bN b))] μ (qi (fun v μ' => sP scr μ μ' ∧ v = nI (duM b (nowM σ)))) := by
  refine cp_of ok_X7_latestByAiming (L := [.ref 2, .int (nI (bN b)), .float 0, .float 0, .float 0, .float 0]) rfl ?_
  refine tr_iconst (v := -1) dX7_latestByAiming_0 (by decide) ?_
  -- at 1: .istore_n 2
  rw [show (-1 : Int32) = nI 0 - 1 by decide]
  refine tr_istore_n_2 dX7_latestByAiming_1 (by decide) rfl ?_
  refine tr_iconst (v := nI 0) dX7_latestByAiming_2 (by decide) ?_
  refine tr_istore_n_3 dX7_latestByAiming_3 (by decide) rfl ?_
  -- at 4: .iload_n 3
  exact l_la hW h0 (nowM σ 18) 0 0 _ _ μ (by omega) h (by omega) (by omega) (fun k hk => by omega) (sP.rf _ μ)
theorem f_duel (h : CI μ σ) (hW : WI σ) : cp X (d + 7) kX7_duel [.ref 2, .int x] μ (PO μ (S_duel σ x)) := by
  have hw := hW.now
  have hw1 := hw.1
  have r4 := h.2.2.2.1.1
  refine cp_of ok_X7_duel (L := [.ref 2, .int x]) rfl ?_
  cases hx : ixV x 3 with
  | none =>
    refine tr_iload_n dX7_duel_0 rfl ?_
    -- at 1: .ifCond .lt 8
    refine tr_if_lt (tgt := 9) dX7_duel_1 (by decide) (fun h1 => ?_) (fun h1 => ?_)
    · refine tr_iconst (v := -1) dX7_duel_9 (by decide) ?_
      -- at 10: .ireturn
      refine tr_iret dX7_duel_10 (by first | exact trivial | rfl) (po_same h (by simp only [S_duel, hx]))
    · refine tr_iload_n dX7_duel_4 rfl ?_
      refine tr_iconst (v := nI 2) dX7_duel_5 (by decide) ?_
      -- at 6: .if_icmp .le 5
      refine tr_icmp_le (tgt := 11) dX7_duel_6 (by decide) (fun h2 => ?_) (fun h2 => ?_)
      · obtain ⟨q, hq, rfl⟩ := nI_of h1
        have : q ≤ 2 := (nI_leI (b := 2) hq (by omega)).mp h2
        exact absurd ⟨Int32.not_lt.mp h1, (nI_ltI hq (by omega)).mpr (by omega)⟩ (ixV_none hx)
      · refine tr_iconst (v := -1) dX7_duel_9 (by decide) ?_
        -- at 10: .ireturn
        refine tr_iret dX7_duel_10 (by first | exact trivial | rfl) (po_same h (by simp only [S_duel, hx]))
  | some q =>
    obtain ⟨rfl, hq⟩ := ixV_some (by omega) hx
    refine tr_iload_n dX7_duel_0 rfl ?_
    -- at 1: .ifCond .lt 8
    refine tr_if_lt (tgt := 9) dX7_duel_1 (by decide) (fun h1 => ?_) (fun h1 => ?_)
    · exact absurd h1 (nI_pos (by omega))
    · refine tr_iload_n dX7_duel_4 rfl ?_
      refine tr_iconst (v := nI 2) dX7_duel_5 (by decide) ?_
      -- at 6: .if_icmp .le 5
      refine tr_leN (tgt := 11) dX7_duel_6 (by decide) (by omega) (by omega) (fun h2 => ?_) (fun h2 => ?_)
      · refine tr_aload_n dX7_duel_11 rfl ?_
        refine tr_getR dX7_duel_12 fg_RX7_28 (by first | assumption | decide) (by first | assumption | rfl) rfl (by omega) ?_
        refine tr_getI dX7_duel_15 fg_RX7_149 (by first | assumption | decide) (by first | assumption | rfl) rfl (by first | assumption | rfl) ?_
        -- at 18: .ifCond .ne 6
        refine tr_ifnN (tgt := 24) dX7_duel_18 (by decide) (by omega) (fun h3 => ?_) (fun h3 => ?_)
        · refine tr_iload_n dX7_duel_24 rfl ?_
          -- at 25: .ifCond .ne 24
          refine tr_ifnN (tgt := 49) dX7_duel_25 (by decide) (by omega) (fun h4 => ?_) (fun h4 => ?_)
          · have e : S_duel σ (nI q) = (nI (duM (decide (q = 2)) (nowM σ)), σ) := by simp only [S_duel, hx]; rw [if_neg h3, if_neg h4]
            rw [e]
            have hrest : tw X (d + 6) kX7_duel (PO μ (nI (duM (decide (q = 2)) (nowM σ)), σ)) 60 [.ref 2, .int (nI q)] [.int (nI (bN (decide (q = 2)))), .ref 2] μ := by
              refine tr_Vi (As := [_]) dX7_duel_60 fm_RX7_267 rfl rfl (by first | assumption | decide) (by first | assumption | rfl) (Nat.le_of_ble_eq_true rfl) (c_la (d := d) h hW h3) (fun v μ1 ⟨e1, e2⟩ => ?_)
              refine tr_iret dX7_duel_63 (by first | exact trivial | rfl) ⟨e2, h.scr e1, e1.fr (fun b hb => by unfold scr at hb; omega)⟩
            refine tr_aload_n dX7_duel_49 rfl ?_
            refine tr_iload_n dX7_duel_50 rfl ?_
            refine tr_iconst (v := nI 2) dX7_duel_51 (by decide) ?_
            -- at 52: .if_icmp .ne 7
            refine tr_neN (tgt := 59) dX7_duel_52 (by decide) (by omega) (by omega) (fun h5 => ?_) (fun h5 => ?_)
            · rw [decide_eq_false h5] at hrest ⊢
              refine tr_iconst (v := nI 0) dX7_duel_59 (by decide) ?_
              -- at 60: .invokevirtual 267
              exact hrest
            · rw [decide_eq_true h5] at hrest ⊢
              refine tr_iconst (v := nI 1) dX7_duel_55 (by decide) ?_
              refine tr_goto (tgt := 60) dX7_duel_56 (by decide) ?_
              -- at 60: .invokevirtual 267
              exact hrest
          · have e : S_duel σ (nI q) = (nI (tM 61 (nowM σ)), σ) := by simp only [S_duel, hx]; rw [if_neg h3, if_pos (by omega)]
            rw [e]
            refine tr_aload_n dX7_duel_28 rfl ?_
            refine tr_getR dX7_duel_29 fg_RX7_31 (by first | assumption | decide) (by first | assumption | rfl) rfl (by omega) ?_
            refine tr_aload_n dX7_duel_32 rfl ?_
            refine tr_getR dX7_duel_33 fg_RX7_28 (by first | assumption | decide) (by first | assumption | rfl) rfl (by omega) ?_
            -- at 36: .invokevirtual 142
            refine tr_Vv (As := [_]) dX7_duel_36 fm_RX7_142 rfl rfl (by first | assumption | decide) (by first | assumption | rfl) (Nat.le_of_ble_eq_true rfl) (c_become (d := d + 5) isB_15 isB_10 (by omega) h.2.2.2.1 hw) (fun μ1 ⟨e1, e2⟩ => ?_)
            have hs1 := sP.of (P := scr) e1 (fun b hb => by simp at hb; unfold scr; omega)
            refine tr_aload_n dX7_duel_39 rfl ?_
            refine tr_getR dX7_duel_40 fg_RX7_31 (by first | assumption | decide) (by first | assumption | rfl) rfl (by omega) ?_
            refine tr_bipush (v := nI 60) dX7_duel_43 (by decide) ?_
            -- at 45: .invokevirtual 218
            rw [show nI 60 = nI 61 - 1 by decide]
            refine tr_Vi (As := [_]) dX7_duel_45 fm_RX7_218 rfl rfl (by first | assumption | decide) (by first | assumption | rfl) (Nat.le_of_ble_eq_true rfl) (c_ticks (d := d + 2) (N := 61) (by omega) isB_15 e2 hw) (fun v μ3 ⟨e5, e6, e7, e8⟩ => ?_)
            have hs2 := hs1.trans (sP.of (P := scr) e5 (fun b hb => by simp at hb; unfold scr; omega))
            refine tr_iret dX7_duel_48 (by first | exact trivial | rfl) ⟨e6, h.scr hs2, hs2.fr (fun b hb => by unfold scr at hb; omega)⟩
        · refine tr_bipush (v := -4) dX7_duel_21 (by decide) ?_
          -- at 23: .ireturn
          refine tr_iret dX7_duel_23 (by first | exact trivial | rfl) (po_same h (by simp only [S_duel, hx]; rw [if_pos (by omega)]))
      · omega
end F8
