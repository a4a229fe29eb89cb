-- ===== the reference: odds, mid =====
theorem ones_n : ∀ n, n < 8 → ∀ s, s < 2 ^ n → onesM 10 s = onesM n s := by decide +kernel
theorem ones_dis {s J : Nat} (h : J &&& s = 0) : ∀ k, onesM k s + onesM k J ≤ k
  | 0 => Nat.le_refl 0
  | k + 1 => by
    have := ones_dis h k
    have hb : (J &&& s).testBit k = false := by rw [h, Nat.zero_testBit]
    rw [Nat.testBit_and] at hb
    rw [onesM, onesM]
    cases e1 : s.testBit k <;> cases e2 : J.testBit k <;> simp [e1, e2] at hb ⊢ <;> omega
def wtk (s J p k : Nat) : Nat := p ^ onesM k J * (12 - p) ^ (k - onesM k s - onesM k J)
theorem wtk_s {s J : Nat} (h : J &&& s = 0) (p k : Nat) : wtk s J p (k + 1) = wtk s J p k * (if s.testBit k = true then 1 else if J.testBit k = true then p else 12 - p) := by
  have hd := ones_dis h k
  have hb : (J &&& s).testBit k = false := by rw [h, Nat.zero_testBit]
  rw [Nat.testBit_and] at hb
  unfold wtk
  rw [onesM, onesM]
  by_cases e1 : s.testBit k = true
  · have e2 : J.testBit k = false := by rw [e1, Bool.and_true] at hb; exact hb
    rw [if_pos e1, e2, if_neg (by decide), if_pos e1, Nat.add_zero, Nat.mul_one, show k + 1 - (onesM k s + 1) - onesM k J = k - onesM k s - onesM k J by omega]
  · rw [if_neg e1, if_neg e1]
    by_cases e2 : J.testBit k = true
    · rw [if_pos e2, if_pos e2, Nat.pow_succ, show k + 1 - (onesM k s + 0) - (onesM k J + 1) = k - onesM k s - onesM k J by omega, Nat.mul_assoc, Nat.mul_assoc, Nat.mul_comm p]
    · rw [if_neg e2, if_neg e2, show k + 1 - (onesM k s + 0) - (onesM k J + 0) = (k - onesM k s - onesM k J) + 1 by omega, Nat.pow_succ, Nat.add_zero, Nat.mul_assoc]
theorem wtk_end {c : NF} (hw : wfc c) {J p : Nat} (hJ : J < 2 ^ c 18) : wtk (c 3) J p (c 18) = wtM c p J := by
  have h7 := hw.1
  unfold wtk wtM frN
  rw [ones_n _ (by omega) _ hJ, ones_n _ (by omega) _ hw.2.2.1]
theorem fr_end {c : NF} (hw : wfc c) : c 18 - onesM (c 18) (c 3) = frN c := by
  have h7 := hw.1
  unfold frN
  rw [ones_n _ (by omega) _ hw.2.2.1]
theorem tw_forW {X : Nat × (Nat → Int32)} {d : Nat} {K : am_K} {Q : Option Value → am_M → Prop} {pc : Nat} {n : Nat} {Lf : Nat → Value → Value → List Value} {P : Nat → am_M → Prop} (step : ∀ k w1 w2 μ, k < n → P k μ → (∀ w1 w2 μ', P (k + 1) μ' → tw X d K Q pc (Lf (k + 1) w1 w2) [] μ') → tw X d K Q pc (Lf k w1 w2) [] μ) (fin : ∀ w1 w2 μ, P n μ → tw X d K Q pc (Lf n w1 w2) [] μ) (k : Nat) (w1 w2 : Value) (μ : am_M) (hk : k ≤ n) (hP : P k μ) : tw X d K Q pc (Lf k w1 w2) [] μ := by
  obtain ⟨m, hm⟩ : ∃ m, k + m = n := ⟨n - k, by omega⟩
  induction m generalizing k w1 w2 μ with
  | zero =>
    have e : k = n := by omega
    subst e
    exact fin w1 w2 μ hP
  | succ m ih => exact step k w1 w2 μ (by omega) hP (fun w1 w2 μ' h' => ih (k + 1) w1 w2 μ' (by omega) h' (by omega))
theorem MI.share {μ μ' : am_M} {σ : SG} {u v : Int64} (h : MI μ σ) (hs : samJ μ μ' 99) (hu : μ'.2 99 15 = u) (hv : μ'.2 99 16 = v) : MI μ' (gU σ u v) := by
  obtain ⟨h1, h2, h3, h4, h5, h6, h7, h8, h9, h10, h11⟩ := h
  have hn : ∀ b, μ'.1 b = μ.1 b := fun b => congrFun hs.1 b
  exact ⟨fun r hr => (h1 r hr).kept (hn _) (hn _), fun t ht => (h2 t ht).kept (hn _) (hn _), h3.kept (hn _), by rw [hn]; exact h4, h5.kept (hn _), fun k hk => (h6 k hk).kept (hn _) (hn _) (hn _) rfl rfl, by rw [hn]; exact h7, by rw [hn]; exact h8, fun f hf => by rw [hn]; exact h9 f hf, hu, hv⟩
theorem samJ.fq99 {μ μ' : am_M} (h : samJ μ μ' 99) : fq μ μ' := fun b hb => ⟨congrFun h.1 b, h.2 b (by omega)⟩
section M13
variable {X : Nat × (Nat → Int32)} {d : Nat} {μ : am_M} {σ : SG} {a b i j n p : Nat} {c : NF} {r x y z w : Int32} {f : Nat → Int32}
theorem l_lowest (ha : a < 2 ^ 60) (hb : b < 2 ^ 60) (hb0 : 0 < b) : ∀ (m x y : Nat) (w : Value), y ≤ m → x < 2 ^ 60 → y < 2 ^ 60 → Nat.gcd x y = Nat.gcd a b → tw X d kX8_lowest (qv (fun μ' => samJ μ μ' 99 ∧ μ'.2 99 15 = lN (a / Nat.gcd a b) ∧ μ'.2 99 16 = lN (b / Nat.gcd a b))) 6 [.ref 99, .long (lN a), .float 0, .long (lN b), .float 0, .long (lN x), .float 0, .long (lN y), .float 0, w, .float 0] [] μ
  | m, x, y, w, hm, hx, hy, hg => by
    have hg0 : 0 < Nat.gcd a b := Nat.gcd_pos_of_pos_right _ hb0
    have hg2 : Nat.gcd a b ≤ b := Nat.le_of_dvd hb0 (Nat.gcd_dvd_right a b)
    refine tr_lload dX8_lowest_6 rfl ?_
    refine tr_lconst (v := lN 0) dX8_lowest_8 (by decide) ?_
    refine tr_lcmp dX8_lowest_9 ?_
    -- at 10: .ifCond .le 21
    refine tr_if_le (tgt := 31) dX8_lowest_10 (by decide) (fun h1 => ?_) (fun h1 => ?_)
    · have h2 : y ≤ 0 := (pk_lLE (b := 0) (by omega) (by omega)).mp ((lg_cmp_le _ _).mp h1)
      have h3 : y = 0 := by omega
      subst h3
      rw [Nat.gcd_zero_right] at hg
      subst hg
      generalize hG : Nat.gcd a b = G at *
      refine tr_aload_n dX8_lowest_31 rfl ?_
      refine tr_lload_n dX8_lowest_32 rfl ?_
      refine tr_lload dX8_lowest_33 rfl ?_
      -- at 35: .ldiv
      refine tr_ldiv dX8_lowest_35 (fun q => by have := (pk_lEQ (b := 0) (by omega) (by omega)).mp q; omega) ?_
      rw [pk_lDiv (by omega) hg0 (by omega)]
      refine tr_putJ dX8_lowest_36 fp_RX8_197 (by first | assumption | decide) (by first | assumption | rfl) rfl ?_
      refine tr_aload_n dX8_lowest_39 rfl ?_
      refine tr_lload_n dX8_lowest_40 rfl ?_
      refine tr_lload dX8_lowest_41 rfl ?_
      -- at 43: .ldiv
      refine tr_ldiv dX8_lowest_43 (fun q => by have := (pk_lEQ (b := 0) (by omega) (by omega)).mp q; omega) ?_
      rw [pk_lDiv (by omega) hg0 (by omega)]
      refine tr_putJ dX8_lowest_44 fp_RX8_50 (by first | assumption | decide) (by first | assumption | rfl) rfl ?_
      -- at 47: .return_
      refine tr_vret dX8_lowest_47 (by first | exact trivial | rfl) ⟨⟨rfl, fun q hq => by rw [sJ_ne _ _ hq, sJ_ne _ _ hq]⟩, ?_, ?_⟩
      · rw [sJ_same, pk_uLn (by omega), sJ_same, pk_uLs]
      · rw [sJ_same, pk_uLs]
    · have h2 : 0 < y := by
        refine Nat.pos_of_ne_zero (fun q => h1 ?_)
        rw [q]
        decide
      have hlt := Nat.mod_lt x h2
      refine tr_lload dX8_lowest_13 rfl ?_
      refine tr_lload dX8_lowest_15 rfl ?_
      -- at 17: .lrem
      refine tr_lrem dX8_lowest_17 (fun q => by have := (pk_lEQ (b := 0) (by omega) (by omega)).mp q; omega) ?_
      rw [pk_lRem (by omega) (by omega) (by omega)]
      refine tr_lstore_9 dX8_lowest_18 (by decide) (by first | rfl | assumption) ?_
      refine tr_lload dX8_lowest_20 rfl ?_
      refine tr_lstore_5 dX8_lowest_22 (by decide) (by first | rfl | assumption) ?_
      refine tr_lload dX8_lowest_24 rfl ?_
      refine tr_lstore_7 dX8_lowest_26 (by decide) (by first | rfl | assumption) ?_
      refine tr_goto (tgt := 6) dX8_lowest_28 (by decide) ?_
      -- at 6: .lload 7
      exact l_lowest ha hb hb0 (m - 1) y (x % y) _ (by omega) (by omega) (by omega) (by rw [← hg, Nat.gcd_comm y, ← Nat.gcd_rec, Nat.gcd_comm])
  termination_by m => m
  decreasing_by omega
theorem r_lowest (ha : a < 2 ^ 60) (hb : b < 2 ^ 60) (hb0 : 0 < b) : cp X (d + 1) kX8_lowest [.ref 99, .long (lN a), .long (lN b)] μ (qv (fun μ' => samJ μ μ' 99 ∧ μ'.2 99 15 = lN (a / Nat.gcd a b) ∧ μ'.2 99 16 = lN (b / Nat.gcd a b))) := by
  refine cp_of ok_X8_lowest (L := [.ref 99, .long (lN a), .float 0, .long (lN b), .float 0, .float 0, .float 0, .float 0, .float 0, .float 0, .float 0]) rfl ?_
  refine tr_lload_n dX8_lowest_0 rfl ?_
  refine tr_lstore_5 dX8_lowest_1 (by decide) (by first | rfl | assumption) ?_
  refine tr_lload_n dX8_lowest_3 rfl ?_
  refine tr_lstore_7 dX8_lowest_4 (by decide) (by first | rfl | assumption) ?_
  -- at 6: .lload 7
  exact l_lowest ha hb hb0 b a b _ (Nat.le_refl b) ha hb rfl
theorem l_its {Q : Option Value → am_M → Prop} {A B : Int64} {k : Int32} {J : Nat} (hw : wfc c) (hm : MR μ 105 c) (hJ : J < 2 ^ c 18) (h0 : J &&& c 3 = 0) (hp : p ≤ 12) (hQ : ∀ (w : Value), tw X (d + 5) kX8_chances Q 149 [.ref 99, .int k, .int (nI n), .int (nI p), .long A, .float 0, .long B, .float 0, .int (nI J), .long (lN (wtM c p J)), .float 0, w] [] μ) : tw X (d + 5) kX8_chances Q 88 [.ref 99, .int k, .int (nI n), .int (nI p), .long A, .float 0, .long B, .float 0, .int (nI J), .long (lN 1), .float 0, .int (nI 0)] [] μ := by
  have h7 := hw.1
  have k18 := hm 18 (by omega)
  have k3 := hm 3 (by omega)
  have hj := hw.jam
  have hJ7 : J < 128 := Nat.lt_of_lt_of_le hJ (pow2_le h7)
  have e0 : wtk (c 3) J p 0 = 1 := by simp [wtk, onesM]
  rw [← e0, ← wtk_end hw hJ]  at *
  refine tw_for (n := c 18) (Lf := fun q => [.ref 99, .int k, .int (nI n), .int (nI p), .long A, .float 0, .long B, .float 0, .int (nI J), .long (lN (wtk (c 3) J p q)), .float 0, .int (nI q)]) (P := fun q μ1 => μ1 = μ) (fun q μ1 hq hP ih => ?_) (fun μ1 hP => ?_) 0 _ (by omega) rfl
  · subst hP
    have ih' := ih μ1 rfl
    rw [wtk_s h0] at ih'
    refine tr_iload dX8_chances_88 rfl ?_
    refine tr_aload_n dX8_chances_90 rfl ?_
    refine tr_getR dX8_chances_91 fg_RX8_26 (by first | assumption | decide) (by first | assumption | rfl) rfl (by omega) ?_
    refine tr_bipush (v := nI 18) dX8_chances_94 (by decide) ?_
    refine tr_iald dX8_chances_96 (by first | assumption | decide) (by first | assumption | rfl) rfl (by omega) (by omega) (by first | assumption | rfl) ?_
    -- at 97: .if_icmp .ge 52
    refine tr_geN (tgt := 149) dX8_chances_97 (by decide) (by omega) (by omega) (fun h1 => ?_) (fun h1 => ?_)
    · omega
    · refine tr_lload dX8_chances_100 rfl ?_
      refine tr_aload_n dX8_chances_102 rfl ?_
      refine tr_getR dX8_chances_103 fg_RX8_26 (by first | assumption | decide) (by first | assumption | rfl) rfl (by omega) ?_
      refine tr_iconst (v := nI 3) dX8_chances_106 (by decide) ?_
      refine tr_iald dX8_chances_107 (by first | assumption | decide) (by first | assumption | rfl) rfl (by omega) (by omega) (by first | assumption | rfl) ?_
      refine tr_iload dX8_chances_108 rfl ?_
      -- at 110: .invokestatic 137
      refine tr_Si (As := [_, _]) dX8_chances_110 fm_RX8_137 rfl rfl (Nat.le_of_ble_eq_true rfl) (r_has hj (by omega)) (fun v μ2 ⟨e1, e2⟩ => ?_)
      subst μ2; subst v
      refine tr_ifb0 (tgt := 120) dX8_chances_113 (by decide) (fun h2 => ?_) (fun h2 => ?_)
      · rw [if_neg (by rw [h2]; decide)] at ih'
        refine tr_iload dX8_chances_120 rfl ?_
        refine tr_iload dX8_chances_122 rfl ?_
        -- at 124: .invokestatic 137
        refine tr_Si (As := [_, _]) dX8_chances_124 fm_RX8_137 rfl rfl (Nat.le_of_ble_eq_true rfl) (r_has hJ7 (by omega)) (fun v μ2 ⟨e1, e2⟩ => ?_)
        subst μ2; subst v
        refine tr_ifb0 (tgt := 135) dX8_chances_127 (by decide) (fun h3 => ?_) (fun h3 => ?_)
        · rw [if_neg (by rw [h3]; decide), ← lN_mul] at ih'
          refine tr_bipush (v := nI 12) dX8_chances_135 (by decide) ?_
          refine tr_iload_n dX8_chances_137 rfl ?_
          first | with_reducible refine tr_isubN dX8_chances_138 (by omega) ?_ | refine tr_isub dX8_chances_138 ?_
          refine tr_i2l dX8_chances_139 ?_
          -- at 140: .lmul
          rw [nI_l (by omega)]
          refine tr_lmul dX8_chances_140 ?_
          refine tr_lstore_9 dX8_chances_141 (by decide) (by first | rfl | assumption) ?_
          first | with_reducible refine tr_iincN_11 dX8_chances_143 (by decide) rfl ?_ | with_reducible refine tr_iincN_11 dX8_chances_143 (by decide) (by assumption) ?_ | refine tr_iinc_11 dX8_chances_143 (by decide) (by first | rfl | assumption) ?_
          refine tr_goto (tgt := 88) dX8_chances_146 (by decide) ?_
          -- at 88: .iload 11
          exact ih'
        · rw [if_pos h3, ← lN_mul] at ih'
          refine tr_iload_n dX8_chances_130 rfl ?_
          refine tr_i2l dX8_chances_131 ?_
          -- at 132: .goto 8
          rw [nI_l (by omega)]
          refine tr_goto (tgt := 140) dX8_chances_132 (by decide) ?_
          refine tr_lmul dX8_chances_140 ?_
          refine tr_lstore_9 dX8_chances_141 (by decide) (by first | rfl | assumption) ?_
          first | with_reducible refine tr_iincN_11 dX8_chances_143 (by decide) rfl ?_ | with_reducible refine tr_iincN_11 dX8_chances_143 (by decide) (by assumption) ?_ | refine tr_iinc_11 dX8_chances_143 (by decide) (by first | rfl | assumption) ?_
          refine tr_goto (tgt := 88) dX8_chances_146 (by decide) ?_
          -- at 88: .iload 11
          exact ih'
      · rw [if_pos h2, ← lN_mul] at ih'
        refine tr_lconst (v := lN 1) dX8_chances_116 (by decide) ?_
        refine tr_goto (tgt := 140) dX8_chances_117 (by decide) ?_
        refine tr_lmul dX8_chances_140 ?_
        refine tr_lstore_9 dX8_chances_141 (by decide) (by first | rfl | assumption) ?_
        first | with_reducible refine tr_iincN_11 dX8_chances_143 (by decide) rfl ?_ | with_reducible refine tr_iincN_11 dX8_chances_143 (by decide) (by assumption) ?_ | refine tr_iinc_11 dX8_chances_143 (by decide) (by first | rfl | assumption) ?_
        refine tr_goto (tgt := 88) dX8_chances_146 (by decide) ?_
        -- at 88: .iload 11
        exact ih'
  · subst hP
    refine tr_iload dX8_chances_88 rfl ?_
    refine tr_aload_n dX8_chances_90 rfl ?_
    refine tr_getR dX8_chances_91 fg_RX8_26 (by first | assumption | decide) (by first | assumption | rfl) rfl (by omega) ?_
    refine tr_bipush (v := nI 18) dX8_chances_94 (by decide) ?_
    refine tr_iald dX8_chances_96 (by first | assumption | decide) (by first | assumption | rfl) rfl (by omega) (by omega) (by first | assumption | rfl) ?_
    -- at 97: .if_icmp .ge 52
    refine tr_geN (tgt := 149) dX8_chances_97 (by decide) (by omega) (by omega) (fun h1 => ?_) (fun h1 => ?_)
    · exact hQ _
    · omega
theorem r_chances {k : Int32} {g : Nat → Nat} (h : MI μ σ) (hW : WI σ) (hn : n ≤ 20) (hp : p ≤ 12) (hg : ∀ r, r < 8 → g r ≤ 7) (hk : (k < 0 ∧ ∀ r, g r = r) ∨ (∃ a, a < 8 ∧ k = nI a ∧ ∀ r, g r = if a ≤ r then 1 else 0)) : cp X (d + 6) kX8_chances [.ref 99, .int k, .int (nI n), .int (nI p)] μ (qv (fun μ' => MI μ' (tellM σ (chaM (nowM σ) n p g)) ∧ fq μ μ')) := by
  have hw := hW.now
  have h7 := hw.1
  have hm := h.2.2.1
  have k18 := hm 18 (by omega)
  have k3 := hm 3 (by omega)
  have hj := hw.jam
  have hp2 := pow2_le h7
  obtain ⟨hB0, hB1⟩ := fr12 hw
  have hcl := cha_lt hw n hp hg
  refine cp_of ok_X8_chances (L := [.ref 99, .int k, .int (nI n), .int (nI p), .float 0, .float 0, .float 0, .float 0, .float 0, .float 0, .float 0, .float 0]) rfl ?_
  refine tr_lconst (v := lN 0) dX8_chances_0 (by decide) ?_
  refine tr_lstore_4 dX8_chances_1 (by decide) (by first | rfl | assumption) ?_
  refine tr_lconst (v := lN 1) dX8_chances_3 (by decide) ?_
  refine tr_lstore_6 dX8_chances_4 (by decide) (by first | rfl | assumption) ?_
  refine tr_iconst (v := nI 0) dX8_chances_6 (by decide) ?_
  refine tr_istore_8 dX8_chances_7 (by decide) (by first | rfl | assumption) ?_
  -- at 9: .iload 8
  refine tw_for (n := nowM σ 18) (Lf := fun q => [.ref 99, .int k, .int (nI n), .int (nI p), .long (lN 0), .float 0, .long (lN (12 ^ (q - onesM q (nowM σ 3)))), .float 0, .int (nI q), .float 0, .float 0, .float 0]) (P := fun q μ1 => μ1 = μ) (fun q μ1 hq hP ih => ?_) (fun μ1 hP => ?_) 0 _ (by omega) rfl
  · subst hP
    have ih' := ih μ1 rfl
    have hle := ones_le q (nowM σ 3)
    rw [show onesM (q + 1) (nowM σ 3) = onesM q (nowM σ 3) + (if (nowM σ 3).testBit q = true then 1 else 0) from rfl] at ih'
    refine tr_iload dX8_chances_9 rfl ?_
    refine tr_aload_n dX8_chances_11 rfl ?_
    refine tr_getR dX8_chances_12 fg_RX8_26 (by first | assumption | decide) (by first | assumption | rfl) rfl (by omega) ?_
    refine tr_bipush (v := nI 18) dX8_chances_15 (by decide) ?_
    refine tr_iald dX8_chances_17 (by first | assumption | decide) (by first | assumption | rfl) rfl (by omega) (by omega) (by first | assumption | rfl) ?_
    -- at 18: .if_icmp .ge 35
    refine tr_geN (tgt := 53) dX8_chances_18 (by decide) (by omega) (by omega) (fun h1 => ?_) (fun h1 => ?_)
    · omega
    · refine tr_lload dX8_chances_21 rfl ?_
      refine tr_aload_n dX8_chances_23 rfl ?_
      refine tr_getR dX8_chances_24 fg_RX8_26 (by first | assumption | decide) (by first | assumption | rfl) rfl (by omega) ?_
      refine tr_iconst (v := nI 3) dX8_chances_27 (by decide) ?_
      refine tr_iald dX8_chances_28 (by first | assumption | decide) (by first | assumption | rfl) rfl (by omega) (by omega) (by first | assumption | rfl) ?_
      refine tr_iload dX8_chances_29 rfl ?_
      -- at 31: .invokestatic 137
      refine tr_Si (As := [_, _]) dX8_chances_31 fm_RX8_137 rfl rfl (Nat.le_of_ble_eq_true rfl) (r_has hj (by omega)) (fun v μ2 ⟨e1, e2⟩ => ?_)
      subst μ2; subst v
      refine tr_ifb0 (tgt := 41) dX8_chances_34 (by decide) (fun h2 => ?_) (fun h2 => ?_)
      · rw [if_neg (by rw [h2]; decide), show q + 1 - (onesM q (nowM σ 3) + 0) = q - onesM q (nowM σ 3) + 1 by omega, Nat.pow_succ, ← lN_mul] at ih'
        refine tr_ldc2 (v := lN 12) dX8_chances_41 fk_RX8_200 ?_
        refine tr_lmul dX8_chances_44 ?_
        refine tr_lstore_6 dX8_chances_45 (by decide) (by first | rfl | assumption) ?_
        first | with_reducible refine tr_iincN_8 dX8_chances_47 (by decide) rfl ?_ | with_reducible refine tr_iincN_8 dX8_chances_47 (by decide) (by assumption) ?_ | refine tr_iinc_8 dX8_chances_47 (by decide) (by first | rfl | assumption) ?_
        refine tr_goto (tgt := 9) dX8_chances_50 (by decide) ?_
        -- at 9: .iload 8
        exact ih'
      · rw [if_pos h2, show q + 1 - (onesM q (nowM σ 3) + 1) = q - onesM q (nowM σ 3) by omega, ← Nat.mul_one (12 ^ (q - onesM q (nowM σ 3))), ← lN_mul] at ih'
        refine tr_lconst (v := lN 1) dX8_chances_37 (by decide) ?_
        refine tr_goto (tgt := 44) dX8_chances_38 (by decide) ?_
        refine tr_lmul dX8_chances_44 ?_
        refine tr_lstore_6 dX8_chances_45 (by decide) (by first | rfl | assumption) ?_
        first | with_reducible refine tr_iincN_8 dX8_chances_47 (by decide) rfl ?_ | with_reducible refine tr_iincN_8 dX8_chances_47 (by decide) (by assumption) ?_ | refine tr_iinc_8 dX8_chances_47 (by decide) (by first | rfl | assumption) ?_
        refine tr_goto (tgt := 9) dX8_chances_50 (by decide) ?_
        -- at 9: .iload 8
        exact ih'
  · subst hP
    rw [fr_end hw]
    refine tr_iload dX8_chances_9 rfl ?_
    refine tr_aload_n dX8_chances_11 rfl ?_
    refine tr_getR dX8_chances_12 fg_RX8_26 (by first | assumption | decide) (by first | assumption | rfl) rfl (by omega) ?_
    refine tr_bipush (v := nI 18) dX8_chances_15 (by decide) ?_
    refine tr_iald dX8_chances_17 (by first | assumption | decide) (by first | assumption | rfl) rfl (by omega) (by omega) (by first | assumption | rfl) ?_
    -- at 18: .if_icmp .ge 35
    refine tr_geN (tgt := 53) dX8_chances_18 (by decide) (by omega) (by omega) (fun h1 => ?_) (fun h1 => ?_)
    · refine tr_iconst (v := nI 0) dX8_chances_53 (by decide) ?_
      refine tr_istore_8 dX8_chances_54 (by decide) (by first | rfl | assumption) ?_
      -- at 56: .iload 8
      refine tw_forW (n := 2 ^ nowM σ 18) (Lf := fun J w1 w2 => [.ref 99, .int k, .int (nI n), .int (nI p), .long (lN (abM (nowM σ) n p g J)), .float 0, .long (lN (12 ^ frN (nowM σ))), .float 0, .int (nI J), w1, .float 0, w2]) (P := fun J μ2 => same μ1 μ2 [107]) (fun J w1 w2 μ2 hJ hP ih => ?_) (fun w1 w2 μ2 hP => ?_) 0 (.float 0) (.float 0) _ (Nat.zero_le _) (same.rf μ1 _)
      · have hM2 := h.same107 hP
        have hm2 := hM2.2.2.1
        have k18 := hm2 18 (by omega)
        have k3 := hm2 3 (by omega)
        have hJ7 : J < 128 := by omega
        have eab : abM (nowM σ) n p g (J + 1) = abM (nowM σ) n p g J + (if J &&& nowM σ 3 = 0 then g (rgN (nowM σ) n J) * wtM (nowM σ) p J else 0) := rfl
        rw [eab] at ih
        generalize abM (nowM σ) n p g J = AB at *
        generalize 12 ^ frN (nowM σ) = BB at *
        refine tr_iload dX8_chances_56 rfl ?_
        refine tr_iconst (v := nI 1) dX8_chances_58 (by decide) ?_
        refine tr_aload_n dX8_chances_59 rfl ?_
        refine tr_getR dX8_chances_60 fg_RX8_26 (by first | assumption | decide) (by first | assumption | rfl) rfl (by omega) ?_
        refine tr_bipush (v := nI 18) dX8_chances_63 (by decide) ?_
        refine tr_iald dX8_chances_65 (by first | assumption | decide) (by first | assumption | rfl) rfl (by omega) (by omega) (by first | assumption | rfl) ?_
        refine tr_ishl dX8_chances_66 ?_
        -- at 67: .if_icmp .ge 175
        refine tr_v (sh1 _ (by omega)) ?_
        refine tr_geN (tgt := 242) dX8_chances_67 (by decide) (by omega) (by omega) (fun h2 => ?_) (fun h2 => ?_)
        · omega
        · refine tr_iload dX8_chances_70 rfl ?_
          refine tr_aload_n dX8_chances_72 rfl ?_
          refine tr_getR dX8_chances_73 fg_RX8_26 (by first | assumption | decide) (by first | assumption | rfl) rfl (by omega) ?_
          refine tr_iconst (v := nI 3) dX8_chances_76 (by decide) ?_
          refine tr_iald dX8_chances_77 (by first | assumption | decide) (by first | assumption | rfl) rfl (by omega) (by omega) (by first | assumption | rfl) ?_
          refine tr_iand dX8_chances_78 ?_
          -- at 79: .ifCond .ne 157
          refine tr_v (and7 _ hJ7 _ hj) ?_
          have hand : J &&& nowM σ 3 < 2 ^ 31 := Nat.lt_of_le_of_lt Nat.and_le_left (by omega)
          refine tr_ifnN (tgt := 236) dX8_chances_79 (by decide) (by omega) (fun h3 => ?_) (fun h3 => ?_)
          · rw [if_neg h3, Nat.add_zero] at ih
            first | with_reducible refine tr_iincN_8 dX8_chances_236 (by decide) rfl ?_ | with_reducible refine tr_iincN_8 dX8_chances_236 (by decide) (by assumption) ?_ | refine tr_iinc_8 dX8_chances_236 (by decide) (by first | rfl | assumption) ?_
            refine tr_goto (tgt := 56) dX8_chances_239 (by decide) ?_
            -- at 56: .iload 8
            exact ih _ _ _ hP
          · rw [if_pos h3] at ih
            refine tr_lconst (v := lN 1) dX8_chances_82 (by decide) ?_
            refine tr_lstore_9 dX8_chances_83 (by decide) (by first | rfl | assumption) ?_
            refine tr_iconst (v := nI 0) dX8_chances_85 (by decide) ?_
            refine tr_istore_11 dX8_chances_86 (by decide) (by first | rfl | assumption) ?_
            -- at 88: .iload 11
            refine l_its hw hm2 hJ h3 hp (fun w => ?_)
            generalize wtM (nowM σ) p J = wt at *
            refine tr_aload_n dX8_chances_149 rfl ?_
            refine tr_getR dX8_chances_150 fg_RX8_26 (by first | assumption | decide) (by first | assumption | rfl) rfl (by omega) ?_
            refine tr_aload_n dX8_chances_153 rfl ?_
            refine tr_getR dX8_chances_154 fg_RX8_32 (by first | assumption | decide) (by first | assumption | rfl) rfl (by omega) ?_
            -- at 157: .invokestatic 163
            refine tr_Sv (As := [_, _]) dX8_chances_157 fm_RX8_163 rfl rfl (Nat.le_of_ble_eq_true rfl) (r_copies isA_105 isA_107 (by omega) hm2) (fun μ3 ⟨e1, e2⟩ => ?_)
            have q3 := e2 3 (by omega)
            refine tr_aload_n dX8_chances_160 rfl ?_
            refine tr_getR dX8_chances_161 fg_RX8_32 (by first | assumption | decide) (by first | assumption | rfl) rfl (by omega) ?_
            refine tr_iconst (v := nI 3) dX8_chances_164 (by decide) ?_
            refine tr_dup2 dX8_chances_165 rfl rfl ?_
            refine tr_iald dX8_chances_166 (by first | assumption | decide) (by first | assumption | rfl) rfl (by omega) (by omega) (by first | assumption | rfl) ?_
            refine tr_iload dX8_chances_167 rfl ?_
            refine tr_ior dX8_chances_169 ?_
            -- at 170: .iastore
            refine tr_v (or7 _ hj _ hJ7) ?_
            refine tr_iast dX8_chances_170 (by first | assumption | decide) (by first | assumption | rfl) rfl (by omega) (by omega) ?_
            -- at 171: .iconst 0
            have hr3 := e2.set 3 (nowM σ 3 ||| J)
            have hs3 := (hP.trans e1).put (a := 107) (upd (μ3.1 107) 3 (nI (nowM σ 3 ||| J))) (by simp)
            generalize sI μ3 107 (upd (μ3.1 107) 3 (nI (nowM σ 3 ||| J))) = μ4 at hr3 hs3 ⊢
            have hwJ := jam_or hw hJ
            have erg : rgN (nowM σ) n J = onesM 7 (rtM (goI n (nu (nowM σ) 3 (nowM σ 3 ||| J))) (goI n (nu (nowM σ) 3 (nowM σ 3 ||| J)) 18)) := by
              rw [goI_keep n _ hwJ 18 (by omega) (by omega) (by omega), nu_n _ _ (by omega), rgN, onesM_7 _ (Nat.lt_of_lt_of_le (rtM_lt _ _) (pow2_le h7))]
            have hrl := rgN_lt (n := n) (J := J) hw
            generalize nu (nowM σ) 3 (nowM σ 3 ||| J) = cJ at *
            refine tr_iconst (v := nI 0) dX8_chances_171 (by decide) ?_
            refine tr_istore_11 dX8_chances_172 (by decide) (by first | rfl | assumption) ?_
            -- at 174: .iload 11
            refine tw_for (n := n) (Lf := fun t => [.ref 99, .int k, .int (nI n), .int (nI p), .long (lN AB), .float 0, .long (lN BB), .float 0, .int (nI J), .long (lN wt), .float 0, .int (nI t)]) (P := fun t μ5 => same μ1 μ5 [107] ∧ MR μ5 107 (goI t cJ)) (fun t μ5 ht hP2 ih2 => ?_) (fun μ5 hP2 => ?_) 0 _ (by omega) ⟨hs3, hr3⟩
            · obtain ⟨p1, p2⟩ := hP2
              refine tr_iload dX8_chances_174 rfl ?_
              refine tr_iload_n dX8_chances_176 rfl ?_
              -- at 177: .if_icmp .ge 17
              refine tr_geN (tgt := 194) dX8_chances_177 (by decide) (by omega) (by omega) (fun h5 => ?_) (fun h5 => ?_)
              · omega
              · refine tr_aload_n dX8_chances_180 rfl ?_
                refine tr_getR dX8_chances_181 fg_RX8_32 (by first | assumption | decide) (by first | assumption | rfl) rfl (by omega) ?_
                -- at 184: .invokestatic 153
                refine tr_Si (As := [_]) dX8_chances_184 fm_RX8_153 rfl rfl (Nat.le_of_ble_eq_true rfl) (r_goes isA_107 p2 (goI_wf _ _ hwJ)) (fun v μ6 ⟨u1, u2, u3⟩ => ?_)
                refine tr_pop dX8_chances_187 rfl ?_
                first | with_reducible refine tr_iincN_11 dX8_chances_188 (by decide) rfl ?_ | with_reducible refine tr_iincN_11 dX8_chances_188 (by decide) (by assumption) ?_ | refine tr_iinc_11 dX8_chances_188 (by decide) (by first | rfl | assumption) ?_
                refine tr_goto (tgt := 174) dX8_chances_191 (by decide) ?_
                -- at 174: .iload 11
                exact ih2 _ ⟨p1.trans u1, by rw [← goI_s]; exact u2⟩
            · obtain ⟨p1, p2⟩ := hP2
              have hwn := goI_wf n _ hwJ
              refine tr_iload dX8_chances_174 rfl ?_
              refine tr_iload_n dX8_chances_176 rfl ?_
              -- at 177: .if_icmp .ge 17
              refine tr_geN (tgt := 194) dX8_chances_177 (by decide) (by omega) (by omega) (fun h5 => ?_) (fun h5 => ?_)
              · refine tr_aload_n dX8_chances_194 rfl ?_
                refine tr_getR dX8_chances_195 fg_RX8_32 (by first | assumption | decide) (by first | assumption | rfl) rfl (by omega) ?_
                -- at 198: .invokestatic 160
                refine tr_Si (As := [_]) dX8_chances_198 fm_RX8_160 rfl rfl (Nat.le_of_ble_eq_true rfl) (r_right isA_107 p2 hwn) (fun v μ6 ⟨u1, u2⟩ => ?_)
                subst μ6; subst v
                refine tr_Si (As := [_]) dX8_chances_201 fm_RX8_157 rfl rfl (Nat.le_of_ble_eq_true rfl) (r_ones (Nat.lt_of_lt_of_le (rtM_lt _ _) (pow2_le hwn.1))) (fun v μ6 ⟨u1, u2⟩ => ?_)
                subst μ6; subst v
                rw [← erg]
                generalize rgN (nowM σ) n J = rg at *
                rw [← lN_add] at ih
                refine tr_istore_11 dX8_chances_204 (by decide) (by first | rfl | assumption) ?_
                refine tr_lload dX8_chances_206 rfl ?_
                refine tr_iload_n dX8_chances_208 rfl ?_
                -- at 209: .ifCond .ge 12
                refine tr_if_ge (tgt := 221) dX8_chances_209 (by decide) (fun h6 => ?_) (fun h6 => ?_)
                · rcases hk with ⟨hk1, hk2⟩ | ⟨a, ha, hk1, hk2⟩
                  · exact absurd hk1 (Int32.not_lt.mpr h6)
                  · rw [hk1]
                    rw [hk1, hk2 rg] at ih
                    refine tr_iload dX8_chances_221 rfl ?_
                    refine tr_iload_n dX8_chances_223 rfl ?_
                    -- at 224: .if_icmp .lt 8
                    refine tr_ltN (tgt := 232) dX8_chances_224 (by decide) (by omega) (by omega) (fun h8 => ?_) (fun h8 => ?_)
                    · rw [if_neg (by omega), Nat.zero_mul] at ih
                      refine tr_lconst (v := lN 0) dX8_chances_232 (by decide) ?_
                      refine tr_ladd dX8_chances_233 ?_
                      refine tr_lstore_4 dX8_chances_234 (by decide) (by first | rfl | assumption) ?_
                      first | with_reducible refine tr_iincN_8 dX8_chances_236 (by decide) rfl ?_ | with_reducible refine tr_iincN_8 dX8_chances_236 (by decide) (by assumption) ?_ | refine tr_iinc_8 dX8_chances_236 (by decide) (by first | rfl | assumption) ?_
                      refine tr_goto (tgt := 56) dX8_chances_239 (by decide) ?_
                      -- at 56: .iload 8
                      exact ih _ _ _ p1
                    · rw [if_pos h8, Nat.one_mul] at ih
                      refine tr_lload dX8_chances_227 rfl ?_
                      refine tr_goto (tgt := 233) dX8_chances_229 (by decide) ?_
                      refine tr_ladd dX8_chances_233 ?_
                      refine tr_lstore_4 dX8_chances_234 (by decide) (by first | rfl | assumption) ?_
                      first | with_reducible refine tr_iincN_8 dX8_chances_236 (by decide) rfl ?_ | with_reducible refine tr_iincN_8 dX8_chances_236 (by decide) (by assumption) ?_ | refine tr_iinc_8 dX8_chances_236 (by decide) (by first | rfl | assumption) ?_
                      refine tr_goto (tgt := 56) dX8_chances_239 (by decide) ?_
                      -- at 56: .iload 8
                      exact ih _ _ _ p1
                · rcases hk with ⟨hk1, hk2⟩ | ⟨a, ha, hk1, hk2⟩
                  · rw [hk2 rg, Nat.mul_comm, ← lN_mul] at ih
                    refine tr_lload dX8_chances_212 rfl ?_
                    refine tr_iload dX8_chances_214 rfl ?_
                    refine tr_i2l dX8_chances_216 ?_
                    -- at 217: .lmul
                    rw [nI_l (by omega)]
                    refine tr_lmul dX8_chances_217 ?_
                    refine tr_goto (tgt := 233) dX8_chances_218 (by decide) ?_
                    refine tr_ladd dX8_chances_233 ?_
                    refine tr_lstore_4 dX8_chances_234 (by decide) (by first | rfl | assumption) ?_
                    first | with_reducible refine tr_iincN_8 dX8_chances_236 (by decide) rfl ?_ | with_reducible refine tr_iincN_8 dX8_chances_236 (by decide) (by assumption) ?_ | refine tr_iinc_8 dX8_chances_236 (by decide) (by first | rfl | assumption) ?_
                    refine tr_goto (tgt := 56) dX8_chances_239 (by decide) ?_
                    -- at 56: .iload 8
                    exact ih _ _ _ p1
                  · rw [hk1] at h6
                    exact absurd (nI_pos' (show a < 2 ^ 31 by omega)) h6
              · omega
      · have hM2 := h.same107 hP
        have hm2 := hM2.2.2.1
        have k18 := hm2 18 (by omega)
        have hf := fq107 hP
        refine tr_iload dX8_chances_56 rfl ?_
        refine tr_iconst (v := nI 1) dX8_chances_58 (by decide) ?_
        refine tr_aload_n dX8_chances_59 rfl ?_
        refine tr_getR dX8_chances_60 fg_RX8_26 (by first | assumption | decide) (by first | assumption | rfl) rfl (by omega) ?_
        refine tr_bipush (v := nI 18) dX8_chances_63 (by decide) ?_
        refine tr_iald dX8_chances_65 (by first | assumption | decide) (by first | assumption | rfl) rfl (by omega) (by omega) (by first | assumption | rfl) ?_
        refine tr_ishl dX8_chances_66 ?_
        -- at 67: .if_icmp .ge 175
        refine tr_v (sh1 _ (by omega)) ?_
        refine tr_geN (tgt := 242) dX8_chances_67 (by decide) (by omega) (by omega) (fun h2 => ?_) (fun h2 => ?_)
        · refine tr_aload_n dX8_chances_242 rfl ?_
          refine tr_lload dX8_chances_243 rfl ?_
          refine tr_lload dX8_chances_245 rfl ?_
          -- at 247: .invokevirtual 202
          refine tr_Vv (As := [_, _]) dX8_chances_247 fm_RX8_202 rfl rfl (by first | assumption | decide) (by first | assumption | rfl) (Nat.le_of_ble_eq_true rfl) (r_lowest (a := chaM (nowM σ) n p g) hcl (by omega) hB0) (fun μ3 ⟨u1, u2, u3⟩ => ?_)
          refine tr_vret dX8_chances_250 (by first | exact trivial | rfl) ⟨hM2.share u1 u2 u3, hf.trans u1.fq99⟩
        · omega
    · omega
theorem r_odds (h : MI μ σ) (hW : WI σ) : cp X (d + 7) kX8_odds [.ref 99, .int x, .int y, .int z] μ (PM μ (S_odds σ x y z)) := by
  have h7 := hW.now.1
  have hm := h.2.2.1
  have k18 := hm 18 (by omega)
  refine cp_of ok_X8_odds (L := [.ref 99, .int x, .int y, .int z]) rfl ?_
  refine tr_iload_n dX8_odds_0 rfl ?_
  refine tr_iconst (v := nI 0) dX8_odds_1 (by decide) ?_
  refine tr_bipush (v := nI 7) dX8_odds_2 (by decide) ?_
  -- at 4: .invokestatic 73
  refine tr_Si (As := [_, _, _]) dX8_odds_4 fm_RX8_73 rfl rfl (Nat.le_of_ble_eq_true rfl) (r_in) (fun v μ1 ⟨e1, e2⟩ => ?_)
  subst μ1; subst v
  rw [in_ix x (by omega)]
  cases hx : ixV x 8 with
  | none =>
    refine tr_ifb0 (tgt := 30) dX8_odds_7 (by decide) (fun h1 => ?_) (fun h1 => ?_)
    · refine tr_iconst (v := -1) dX8_odds_30 (by decide) ?_
      exact tr_iret dX8_odds_31 (by first | exact trivial | rfl) (pm_same h (by simp only [S_odds, hx]))
    · cases h1
  | some a =>
    obtain ⟨rfl, ha⟩ := ixV_some (by omega) hx
    refine tr_ifb0 (tgt := 30) dX8_odds_7 (by decide) (fun h1 => ?_) (fun h1 => ?_)
    · cases h1
    · refine tr_iload_n dX8_odds_10 rfl ?_
      refine tr_iconst (v := nI 0) dX8_odds_11 (by decide) ?_
      refine tr_bipush (v := nI 20) dX8_odds_12 (by decide) ?_
      -- at 14: .invokestatic 73
      refine tr_Si (As := [_, _, _]) dX8_odds_14 fm_RX8_73 rfl rfl (Nat.le_of_ble_eq_true rfl) (r_in) (fun v μ1 ⟨e1, e2⟩ => ?_)
      subst μ1; subst v
      rw [in_ix y (by omega)]
      cases hy : ixV y 21 with
      | none =>
        refine tr_ifb0 (tgt := 30) dX8_odds_17 (by decide) (fun h2 => ?_) (fun h2 => ?_)
        · refine tr_iconst (v := -1) dX8_odds_30 (by decide) ?_
          exact tr_iret dX8_odds_31 (by first | exact trivial | rfl) (pm_same h (by simp only [S_odds, hx, hy]))
        · cases h2
      | some b =>
        obtain ⟨rfl, hb⟩ := ixV_some (by omega) hy
        refine tr_ifb0 (tgt := 30) dX8_odds_17 (by decide) (fun h2 => ?_) (fun h2 => ?_)
        · cases h2
        · refine tr_iload_n dX8_odds_20 rfl ?_
          refine tr_iconst (v := nI 0) dX8_odds_21 (by decide) ?_
          refine tr_bipush (v := nI 12) dX8_odds_22 (by decide) ?_
          -- at 24: .invokestatic 73
          refine tr_Si (As := [_, _, _]) dX8_odds_24 fm_RX8_73 rfl rfl (Nat.le_of_ble_eq_true rfl) (r_in) (fun v μ1 ⟨e1, e2⟩ => ?_)
          subst μ1; subst v
          rw [in_ix z (by omega)]
          cases hz : ixV z 13 with
          | none =>
            refine tr_ifb1 (tgt := 32) dX8_odds_27 (by decide) (fun h3 => ?_) (fun h3 => ?_)
            · cases h3
            · refine tr_iconst (v := -1) dX8_odds_30 (by decide) ?_
              exact tr_iret dX8_odds_31 (by first | exact trivial | rfl) (pm_same h (by simp only [S_odds, hx, hy, hz]))
          | some q =>
            obtain ⟨rfl, hq⟩ := ixV_some (by omega) hz
            refine tr_ifb1 (tgt := 32) dX8_odds_27 (by decide) (fun h3 => ?_) (fun h3 => ?_)
            · refine tr_aload_n dX8_odds_32 rfl ?_
              refine tr_getR dX8_odds_33 fg_RX8_26 (by first | assumption | decide) (by first | assumption | rfl) rfl (by omega) ?_
              refine tr_bipush (v := nI 18) dX8_odds_36 (by decide) ?_
              refine tr_iald dX8_odds_38 (by first | assumption | decide) (by first | assumption | rfl) rfl (by omega) (by omega) (by first | assumption | rfl) ?_
              -- at 39: .ifCond .ne 6
              refine tr_ifnN (tgt := 45) dX8_odds_39 (by decide) (by omega) (fun h4 => ?_) (fun h4 => ?_)
              · refine tr_aload_n dX8_odds_45 rfl ?_
                refine tr_iload_n dX8_odds_46 rfl ?_
                refine tr_iload_n dX8_odds_47 rfl ?_
                refine tr_iload_n dX8_odds_48 rfl ?_
                -- at 49: .invokevirtual 206
                refine tr_Vv (As := [_, _, _]) dX8_odds_49 fm_RX8_206 rfl rfl (by first | assumption | decide) (by first | assumption | rfl) (Nat.le_of_ble_eq_true rfl) (r_chances (g := fun r => if a ≤ r then 1 else 0) h hW (by omega) (by omega) (fun r _ => by split <;> omega) (Or.inr ⟨a, ha, rfl, fun r => rfl⟩)) (fun μ1 ⟨e1, e2⟩ => ?_)
                refine tr_iconst (v := nI 1) dX8_odds_52 (by decide) ?_
                -- at 53: .ireturn
                refine tr_iret dX8_odds_53 (by first | exact trivial | rfl) (pm_e (q := (1, tellM σ (chaM (nowM σ) b q (fun r => if a ≤ r then 1 else 0)))) (by simp only [S_odds, hx, hy, hz]; rw [if_neg h4]) rfl e1 e2)
              · refine tr_bipush (v := -4) dX8_odds_42 (by decide) ?_
                exact tr_iret dX8_odds_44 (by first | exact trivial | rfl) (pm_same h (by simp only [S_odds, hx, hy, hz]; rw [if_pos h4]))
            · cases h3
theorem r_mid (h : MI μ σ) (hW : WI σ) : cp X (d + 7) kX8_mid [.ref 99, .int y, .int z] μ (PM μ (S_mid σ y z)) := by
  have h7 := hW.now.1
  have hm := h.2.2.1
  have k18 := hm 18 (by omega)
  refine cp_of ok_X8_mid (L := [.ref 99, .int y, .int z]) rfl ?_
  refine tr_iload_n dX8_mid_0 rfl ?_
  refine tr_iconst (v := nI 0) dX8_mid_1 (by decide) ?_
  refine tr_bipush (v := nI 20) dX8_mid_2 (by decide) ?_
  -- at 4: .invokestatic 73
  refine tr_Si (As := [_, _, _]) dX8_mid_4 fm_RX8_73 rfl rfl (Nat.le_of_ble_eq_true rfl) (r_in) (fun v μ1 ⟨e1, e2⟩ => ?_)
  subst μ1; subst v
  rw [in_ix y (by omega)]
  cases hy : ixV y 21 with
  | none =>
    refine tr_ifb0 (tgt := 20) dX8_mid_7 (by decide) (fun h2 => ?_) (fun h2 => ?_)
    · refine tr_iconst (v := -1) dX8_mid_20 (by decide) ?_
      exact tr_iret dX8_mid_21 (by first | exact trivial | rfl) (pm_same h (by simp only [S_mid, hy]))
    · cases h2
  | some b =>
    obtain ⟨rfl, hb⟩ := ixV_some (by omega) hy
    refine tr_ifb0 (tgt := 20) dX8_mid_7 (by decide) (fun h2 => ?_) (fun h2 => ?_)
    · cases h2
    · refine tr_iload_n dX8_mid_10 rfl ?_
      refine tr_iconst (v := nI 0) dX8_mid_11 (by decide) ?_
      refine tr_bipush (v := nI 12) dX8_mid_12 (by decide) ?_
      -- at 14: .invokestatic 73
      refine tr_Si (As := [_, _, _]) dX8_mid_14 fm_RX8_73 rfl rfl (Nat.le_of_ble_eq_true rfl) (r_in) (fun v μ1 ⟨e1, e2⟩ => ?_)
      subst μ1; subst v
      rw [in_ix z (by omega)]
      cases hz : ixV z 13 with
      | none =>
        refine tr_ifb1 (tgt := 22) dX8_mid_17 (by decide) (fun h3 => ?_) (fun h3 => ?_)
        · cases h3
        · refine tr_iconst (v := -1) dX8_mid_20 (by decide) ?_
          exact tr_iret dX8_mid_21 (by first | exact trivial | rfl) (pm_same h (by simp only [S_mid, hy, hz]))
      | some q =>
        obtain ⟨rfl, hq⟩ := ixV_some (by omega) hz
        refine tr_ifb1 (tgt := 22) dX8_mid_17 (by decide) (fun h3 => ?_) (fun h3 => ?_)
        · refine tr_aload_n dX8_mid_22 rfl ?_
          refine tr_getR dX8_mid_23 fg_RX8_26 (by first | assumption | decide) (by first | assumption | rfl) rfl (by omega) ?_
          refine tr_bipush (v := nI 18) dX8_mid_26 (by decide) ?_
          refine tr_iald dX8_mid_28 (by first | assumption | decide) (by first | assumption | rfl) rfl (by omega) (by omega) (by first | assumption | rfl) ?_
          -- at 29: .ifCond .ne 6
          refine tr_ifnN (tgt := 35) dX8_mid_29 (by decide) (by omega) (fun h4 => ?_) (fun h4 => ?_)
          · refine tr_aload_n dX8_mid_35 rfl ?_
            refine tr_iconst (v := -1) dX8_mid_36 (by decide) ?_
            refine tr_iload_n dX8_mid_37 rfl ?_
            refine tr_iload_n dX8_mid_38 rfl ?_
            -- at 39: .invokevirtual 206
            refine tr_Vv (As := [_, _, _]) dX8_mid_39 fm_RX8_206 rfl rfl (by first | assumption | decide) (by first | assumption | rfl) (Nat.le_of_ble_eq_true rfl) (r_chances (g := fun r => r) h hW (by omega) (by omega) (fun r hr => by omega) (Or.inl ⟨by decide, fun r => rfl⟩)) (fun μ1 ⟨e1, e2⟩ => ?_)
            refine tr_iconst (v := nI 1) dX8_mid_42 (by decide) ?_
            -- at 43: .ireturn
            refine tr_iret dX8_mid_43 (by first | exact trivial | rfl) (pm_e (q := (1, tellM σ (chaM (nowM σ) b q (fun r => r)))) (by simp only [S_mid, hy, hz]; rw [if_neg h4]) rfl e1 e2)
          · refine tr_bipush (v := -4) dX8_mid_32 (by decide) ?_
            exact tr_iret dX8_mid_34 (by first | exact trivial | rfl) (pm_same h (by simp only [S_mid, hy, hz]; rw [if_pos h4]))
        · cases h3
end M13
