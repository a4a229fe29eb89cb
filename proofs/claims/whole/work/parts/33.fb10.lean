-- ===== FlapBoard: chances =====
def rgN (c : NF) (n J : Nat) : Nat := onesM 10 (rtM (goI n (nu c 3 (c 3 ||| J))) (c 18))
def frN (c : NF) : Nat := c 18 - onesM 10 (c 3)
def wtM (c : NF) (p J : Nat) : Nat := p ^ onesM 10 J * (12 - p) ^ (frN c - onesM 10 J)
def wsM (c : NF) (n p k : Nat) : Nat → Nat
  | 0 => 0
  | J + 1 => wsM c n p k J + (if J &&& c 3 = 0 ∧ rgN c n J = k then wtM c p J else 0)
def abM (c : NF) (n p : Nat) (g : Nat → Nat) : Nat → Nat
  | 0 => 0
  | J + 1 => abM c n p g J + (if J &&& c 3 = 0 then g (rgN c n J) * wtM c p J else 0)
def smN (g : Nat → Nat) : Nat → Nat
  | 0 => 0
  | k + 1 => smN g k + g k
theorem smN_add (g h : Nat → Nat) : ∀ n, smN (fun k => g k + h k) n = smN g n + smN h n
  | 0 => rfl
  | n + 1 => by rw [smN, smN, smN, smN_add g h n]; omega
theorem smN_0 (g : Nat → Nat) : ∀ n, (∀ k, k < n → g k = 0) → smN g n = 0
  | 0, _ => rfl
  | n + 1, h => by rw [smN, smN_0 g n (fun k hk => h k (by omega)), h n (by omega)]
theorem smN_one (g : Nat → Nat) (q : Nat) : ∀ n, q < n → (∀ k, k < n → k ≠ q → g k = 0) → smN g n = g q
  | 0, h, _ => by omega
  | n + 1, h, hz => by
    rw [smN]
    by_cases e : q = n
    · subst e
      rw [smN_0 g q (fun k hk => hz k (by omega) (by omega))]; omega
    · rw [smN_one g q n (by omega) (fun k hk => hz k (by omega)), hz n (by omega) (by omega)]; rfl
theorem smN_congr (g h : Nat → Nat) : ∀ n, (∀ k, k < n → g k = h k) → smN g n = smN h n
  | 0, _ => rfl
  | n + 1, e => by rw [smN, smN, smN_congr g h n (fun k hk => e k (by omega)), e n (by omega)]
theorem smN_le (g : Nat → Nat) (b : Nat) : ∀ n, (∀ k, k < n → g k ≤ b) → smN g n ≤ n * b
  | 0, _ => Nat.zero_le _
  | n + 1, h => by
    have h1 := smN_le g b n (fun k hk => h k (by omega))
    have h2 := h n (by omega)
    rw [smN, Nat.succ_mul]; omega
theorem ab_ws (c : NF) (n p : Nat) (g : Nat → Nat) : ∀ J, (∀ q, q < J → rgN c n q < 8) → abM c n p g J = smN (fun k => g k * wsM c n p k J) 8
  | 0, _ => by rw [abM, smN_0 _ 8 (fun k hk => by rw [wsM, Nat.mul_zero])]
  | J + 1, h => by
    have e : ∀ k, g k * wsM c n p k (J + 1) = g k * wsM c n p k J + g k * (if J &&& c 3 = 0 ∧ rgN c n J = k then wtM c p J else 0) := fun k => by rw [wsM, Nat.mul_add]
    rw [smN_congr _ _ 8 (fun k _ => e k), smN_add, abM, ab_ws c n p g J (fun q hq => h q (by omega))]
    congr 1
    have hr := h J (by omega)
    rw [smN_one _ (rgN c n J) 8 hr (fun k _ hk => by rw [if_neg (fun q => hk q.2.symm), Nat.mul_zero])]
    by_cases h0 : J &&& c 3 = 0
    · rw [if_pos h0, if_pos ⟨h0, rfl⟩]
    · rw [if_neg h0, if_neg (fun q => h0 q.1), Nat.mul_zero]
theorem and7 : ∀ a, a < 128 → ∀ b, b < 128 → nI a &&& nI b = nI (a &&& b) := by decide +kernel
theorem or7 : ∀ a, a < 128 → ∀ b, b < 128 → nI a ||| nI b = nI (a ||| b) := by decide +kernel
theorem ones7 : ∀ m, m < 128 → onesM 10 m ≤ 7 := by decide +kernel
theorem onesN : ∀ n, n < 8 → ∀ m, m < 2 ^ n → onesM 10 m ≤ n := by decide +kernel
theorem ones_or : ∀ a, a < 128 → ∀ b, b < 128 → a &&& b = 0 → onesM 10 a + onesM 10 b = onesM 10 (a ||| b) := by decide +kernel
theorem sh1 : ∀ n, n < 8 → nI 1 <<< (nI n &&& 31) = nI (2 ^ n) := by decide +kernel
theorem pow2_le {n : Nat} (h : n ≤ 7) : 2 ^ n ≤ 128 := Nat.pow_le_pow_right (n := 2) (by omega) h
theorem frN_ge {c : NF} (hw : wfc c) {J : Nat} (hJ : J < 2 ^ c 18) (h0 : J &&& c 3 = 0) : onesM 10 J ≤ frN c ∧ onesM 10 (c 3) ≤ c 18 := by
  have h1 := hw.1
  have h2 := pow2_le h1
  have h3 := hw.2.2.1
  have h4 := onesN (c 18) (by omega) (J ||| c 3) (Nat.or_lt_two_pow hJ h3)
  have h5 := ones_or J (by omega) (c 3) (by omega) h0
  have h6 := onesN (c 18) (by omega) (c 3) h3
  unfold frN
  omega
theorem wtM_le {c : NF} (hw : wfc c) {p J : Nat} (hp : p ≤ 12) (hJ : J < 2 ^ c 18) (h0 : J &&& c 3 = 0) : wtM c p J ≤ 35831808 := by
  have h1 := hw.1
  have ⟨h2, h3⟩ := frN_ge hw hJ h0
  unfold wtM
  have a1 : p ^ onesM 10 J ≤ 12 ^ onesM 10 J := Nat.pow_le_pow_left hp _
  have a2 : (12 - p) ^ (frN c - onesM 10 J) ≤ 12 ^ (frN c - onesM 10 J) := Nat.pow_le_pow_left (by omega) _
  have a3 := Nat.mul_le_mul a1 a2
  rw [← Nat.pow_add] at a3
  have a4 : 12 ^ (onesM 10 J + (frN c - onesM 10 J)) ≤ 12 ^ 7 := Nat.pow_le_pow_right (by omega) (by unfold frN at *; omega)
  have a5 : 12 ^ 7 = 35831808 := by decide
  omega
theorem wsM_le {c : NF} (hw : wfc c) {n p k : Nat} (hp : p ≤ 12) : ∀ J, J ≤ 2 ^ c 18 → wsM c n p k J ≤ J * 35831808
  | 0, _ => Nat.zero_le _
  | J + 1, hJ => by
    have h1 := wsM_le hw (n := n) (k := k) hp J (by omega)
    rw [wsM, Nat.succ_mul]
    split
    · rename_i q
      exact Nat.add_le_add h1 (wtM_le hw hp (show J < 2 ^ c 18 by omega) q.1)
    · exact Nat.le_trans h1 (Nat.le_add_right _ _)
theorem jam_or {c : NF} (hw : wfc c) {J : Nat} (hJ : J < 2 ^ c 18) : wfc (nu c 3 (c 3 ||| J)) := hw.setjam (Nat.or_lt_two_pow hw.2.2.1 hJ)
theorem rgN_lt {c : NF} (hw : wfc c) {n J : Nat} : rgN c n J < 8 := by
  have h1 := hw.1
  have h2 := pow2_le h1
  have h3 := rtM_lt (goI n (nu c 3 (c 3 ||| J))) (c 18)
  have := ones7 _ (Nat.lt_of_lt_of_le h3 h2)
  unfold rgN
  omega
def chaM (c : NF) (n p : Nat) (g : Nat → Nat) : Nat := abM c n p g (2 ^ c 18)
def tellM (σ : SG) (a : Nat) : SG := gU σ (lN (a / Nat.gcd a (12 ^ frN (nowM σ)))) (lN (12 ^ frN (nowM σ) / Nat.gcd a (12 ^ frN (nowM σ))))
def S_odds (σ : SG) (k n p : Int32) : Int32 × SG := match ixV k 8, ixV n 21, ixV p 13 with
  | some a, some b, some q => if nowM σ 18 = 0 then (-4, σ) else (1, tellM σ (chaM (nowM σ) b q (fun r => if a ≤ r then 1 else 0)))
  | _, _, _ => (-1, σ)
def S_mid (σ : SG) (n p : Int32) : Int32 × SG := match ixV n 21, ixV p 13 with
  | some b, some q => if nowM σ 18 = 0 then (-4, σ) else (1, tellM σ (chaM (nowM σ) b q (fun r => r)))
  | _, _ => (-1, σ)
theorem CI.share {μ μ' : am_M} {σ : SG} {u v : Int64} (h : CI μ σ) (hs : samJ μ μ' 71) (hu : μ'.2 71 0 = u) (hv : μ'.2 71 1 = v) : CI μ' (gU σ u v) := by
  obtain ⟨h1, h2, h3, h4, h5, h6, h7, h8, h9, h10, h11⟩ := h
  have e := hs.1
  have hn : ∀ b, μ'.1 b = μ.1 b := fun b => congrFun e b
  refine ⟨fun r hr => (h1 r hr).kept (hn _) (hn _), fun t ht => (h2 t ht).kept (hn _) (hn _), h3.keep (fun b b1 b2 => hn b), h4.keep (fun b b1 b2 => hn b), h5.kept (hn _) (hn _), fun k hk => (h6 k hk).kept (hn _) (hn _), ?_, ?_, fun f hf => ?_, hu, hv⟩
  · rw [hn 2]; exact h7
  · rw [hn 2]; exact h8
  · rw [hn 72]; exact h9 f hf
section F10
variable {X : Nat × (Nat → Int32)} {d : Nat} {μ : am_M} {σ : SG} {r x y z w : Int32} {i j n p : Nat} {f : Nat → Int32}
theorem c_free (h : CI μ σ) (hW : WI σ) : cp X (d + 2) kX7_freeOnes [.ref 2] μ (qi (fun v μ' => μ' = μ ∧ v = nI (frN (nowM σ)))) := by
  have hw := hW.now
  have hw1 := hw.1
  have h2 := pow2_le hw1
  have h3 := hw.2.2.1
  have h6 := onesN (nowM σ 18) (by omega) (nowM σ 3) h3
  obtain ⟨r4, r5, r6, r7, r8, rr⟩ := h.2.2.2.1
  refine cp_of ok_X7_freeOnes (L := [.ref 2]) rfl ?_
  refine tr_aload_n dX7_freeOnes_0 rfl ?_
  refine tr_getR dX7_freeOnes_1 fg_RX7_28 (by first | assumption | decide) (by first | assumption | rfl) rfl (by omega) ?_
  refine tr_getI dX7_freeOnes_4 fg_RX7_149 (by first | assumption | decide) (by first | assumption | rfl) rfl (by first | assumption | rfl) ?_
  refine tr_aload_n dX7_freeOnes_7 rfl ?_
  refine tr_getR dX7_freeOnes_8 fg_RX7_28 (by first | assumption | decide) (by first | assumption | rfl) rfl (by omega) ?_
  refine tr_getI dX7_freeOnes_11 fg_RX7_200 (by first | assumption | decide) (by first | assumption | rfl) rfl (by first | assumption | rfl) ?_
  -- at 14: .invokestatic 203
  refine tr_Si (As := [_]) dX7_freeOnes_14 fm_RX7_203 rfl rfl (Nat.le_of_ble_eq_true rfl) (c_bitCount (d := d) (m := nowM σ 3) (by omega)) (fun v μ1 ⟨e1, e2⟩ => ?_)
  subst μ1; subst v
  first | with_reducible refine tr_isubN dX7_freeOnes_17 (by omega) ?_ | refine tr_isub dX7_freeOnes_17 ?_
  -- at 18: .ireturn
  refine tr_iret dX7_freeOnes_18 (by first | exact trivial | rfl) ⟨rfl, rfl⟩
theorem c_wall (h : CI μ σ) (hW : WI σ) : cp X (d + 3) kX7_weightOfAll [.ref 2] μ (ql (fun v μ' => μ' = μ ∧ v = lN (12 ^ frN (nowM σ)))) := by
  have hw1 := hW.now.1
  have h7 : frN (nowM σ) ≤ 7 := by unfold frN; omega
  have a4 : 12 ^ frN (nowM σ) ≤ 12 ^ 7 := Nat.pow_le_pow_right (by omega) h7
  have a5 : 12 ^ 7 = 35831808 := by decide
  refine cp_of ok_X7_weightOfAll (L := [.ref 2]) rfl ?_
  refine tr_bipush (v := nI 12) dX7_weightOfAll_0 (by decide) ?_
  refine tr_aload_n dX7_weightOfAll_2 rfl ?_
  -- at 3: .invokevirtual 370
  refine tr_Vi (As := []) dX7_weightOfAll_3 fm_RX7_370 rfl rfl (by first | assumption | decide) (by first | assumption | rfl) (Nat.le_of_ble_eq_true rfl) (c_free (d := d) h hW) (fun v μ1 ⟨e1, e2⟩ => ?_)
  subst μ1; subst v
  refine tr_Si (As := [_, _]) dX7_weightOfAll_6 fm_RX7_316 rfl rfl (Nat.le_of_ble_eq_true rfl) (c_raised (d := d + 1) (p := 12) (e := frN (nowM σ)) (by omega)) (fun v μ1 ⟨e1, e2⟩ => ?_)
  subst μ1; subst v
  refine tr_i2l dX7_weightOfAll_9 ?_
  -- at 10: .lreturn
  rw [nI_l (by omega)]
  refine tr_lret dX7_weightOfAll_10 (by first | exact trivial | rfl) ⟨rfl, rfl⟩
theorem c_chances : cp X (d + 1) kX7_areChances [.int x, .int y] μ (qi (fun v μ' => μ' = μ ∧ v = nI (bN ((ixV x 21).isSome && (ixV y 13).isSome)))) := by
  refine cp_of ok_X7_areChances (L := [.int x, .int y]) rfl ?_
  have hbad : (ixV x 21 = none ∨ ixV y 13 = none) → tw X d kX7_areChances (qi (fun v μ' => μ' = μ ∧ v = nI (bN ((ixV x 21).isSome && (ixV y 13).isSome)))) 24 [.int x, .int y] [] μ := by
    intro hn
    refine tr_iconst (v := nI 0) dX7_areChances_24 (by decide) ?_
    -- at 25: .ireturn
    refine tr_iret dX7_areChances_25 (by first | exact trivial | rfl) ⟨rfl, by rcases hn with e | e <;> rw [e] <;> simp [bN]⟩
  refine tr_iload_n dX7_areChances_0 rfl ?_
  -- at 1: .ifCond .lt 23
  refine tr_if_lt (tgt := 24) dX7_areChances_1 (by decide) (fun h1 => ?_) (fun h1 => ?_)
  · exact hbad (Or.inl (ixV_not (fun q => absurd q.1 (Int32.not_le.mpr h1))))
  · refine tr_iload_n dX7_areChances_4 rfl ?_
    refine tr_bipush (v := nI 20) dX7_areChances_5 (by decide) ?_
    -- at 7: .if_icmp .gt 17
    refine tr_icmp_gt (tgt := 24) dX7_areChances_7 (by decide) (fun h2 => ?_) (fun h2 => ?_)
    · exact hbad (Or.inl (ixV_not (fun q => by
        obtain ⟨a, ha, rfl⟩ := nI_of h1
        have a1 := (nI_ltI ha (by omega)).mp q.2
        have a2 : 20 < a := (nI_ltI (a := 20) (by omega) ha).mp h2
        omega)))
    · obtain ⟨a, ha, rfl⟩ := nI_of h1
      have a2 : a ≤ 20 := (nI_leI (b := 20) ha (by omega)).mp (Int32.not_lt.mp h2)
      refine tr_iload_n dX7_areChances_10 rfl ?_
      -- at 11: .ifCond .lt 13
      refine tr_if_lt (tgt := 24) dX7_areChances_11 (by decide) (fun h3 => ?_) (fun h3 => ?_)
      · exact hbad (Or.inr (ixV_not (fun q => absurd q.1 (Int32.not_le.mpr h3))))
      · refine tr_iload_n dX7_areChances_14 rfl ?_
        refine tr_bipush (v := nI 12) dX7_areChances_15 (by decide) ?_
        -- at 17: .if_icmp .gt 7
        refine tr_icmp_gt (tgt := 24) dX7_areChances_17 (by decide) (fun h4 => ?_) (fun h4 => ?_)
        · exact hbad (Or.inr (ixV_not (fun q => by
            obtain ⟨b, hb, rfl⟩ := nI_of h3
            have b1 := (nI_ltI hb (by omega)).mp q.2
            have b2 : 12 < b := (nI_ltI (a := 12) (by omega) hb).mp h4
            omega)))
        · obtain ⟨b, hb, rfl⟩ := nI_of h3
          have b2 : b ≤ 12 := (nI_leI (b := 12) hb (by omega)).mp (Int32.not_lt.mp h4)
          refine tr_iconst (v := nI 1) dX7_areChances_20 (by decide) ?_
          refine tr_goto (tgt := 25) dX7_areChances_21 (by decide) ?_
          -- at 25: .ireturn
          refine tr_iret dX7_areChances_25 (by first | exact trivial | rfl) ⟨rfl, by rw [ixV_nI (by omega) (by omega), ixV_nI (by omega) (by omega)]; rfl⟩
theorem l_w0 {Q : Option Value → am_M → Prop} : ∀ (m k : Nat) (μ : am_M), k + m = 8 → (∀ q, q < k → μ.2 70 q = lN 0) → (∀ μ', sP scr μ μ' → (∀ q, q < 8 → μ'.2 70 q = lN 0) → tw X (d + 4) kX7_weighRightOnes Q 21 [.ref 2, .int (nI n), .int (nI p), .int (nI 8), .float 0, .float 0] [] μ') → tw X (d + 4) kX7_weighRightOnes Q 2 [.ref 2, .int (nI n), .int (nI p), .int (nI k), .float 0, .float 0] [] μ
  | m, k, μ, hkm, hz, hQ => by
    refine tr_iload_n dX7_weighRightOnes_2 rfl ?_
    refine tr_bipush (v := nI 7) dX7_weighRightOnes_3 (by decide) ?_
    -- at 5: .if_icmp .gt 16
    refine tr_gtN (tgt := 21) dX7_weighRightOnes_5 (by decide) (by omega) (by omega) (fun h1 => ?_) (fun h1 => ?_)
    · obtain rfl : k = 8 := by omega
      exact hQ μ (sP.rf _ μ) hz
    · refine tr_aload_n dX7_weighRightOnes_8 rfl ?_
      refine tr_getR dX7_weighRightOnes_9 fg_RX7_64 (by first | assumption | decide) (by first | assumption | rfl) rfl (by omega) ?_
      refine tr_iload_n dX7_weighRightOnes_12 rfl ?_
      refine tr_lconst (v := lN 0) dX7_weighRightOnes_13 (by decide) ?_
      refine tr_last dX7_weighRightOnes_14 (by first | assumption | decide) (by first | assumption | rfl) rfl (by omega) (by omega) ?_
      -- at 15: .iinc 3 1
      have hs := (sP.rf scr μ).putJ (a := 70) (vp_updL (μ.2 70) k (lN 0)) (by unfold scr; omega)
      have hz2 : ∀ q, q < k + 1 → (sJ μ 70 (vp_updL (μ.2 70) k (lN 0))).2 70 q = lN 0 := by
        intro q hq
        rw [sJ_same]
        by_cases e : q = k
        · subst e; rw [pk_uLs]
        · rw [pk_uLn e]; exact hz q (by omega)
      generalize sJ μ 70 (vp_updL (μ.2 70) k (lN 0)) = μ1 at hs hz2 ⊢
      first | with_reducible refine tr_iincN_3 dX7_weighRightOnes_15 (by decide) rfl ?_ | refine tr_iinc_3 dX7_weighRightOnes_15 (by decide) rfl ?_
      refine tr_goto (tgt := 2) dX7_weighRightOnes_18 (by decide) ?_
      -- at 2: .iload_n 3
      exact l_w0 (m - 1) (k + 1) μ1 (by omega) hz2 (fun μ' a1 a2 => hQ μ' (hs.trans a1) a2)
  termination_by m => m
theorem l_w1 {m0 : am_M} (hW : WI σ) (hn : n ≤ 20) (hp : p ≤ 12) : ∀ (m J : Nat) (v5 : Value) (μ : am_M), J + m = 2 ^ nowM σ 18 → CI μ σ → sP scr m0 μ → (∀ q, q < 8 → μ.2 70 q = lN (wsM (nowM σ) n p q J)) → tw X (d + 4) kX7_weighRightOnes (qv (fun μ' => sP scr m0 μ' ∧ ∀ q, q < 8 → μ'.2 70 q = lN (wsM (nowM σ) n p q (2 ^ nowM σ 18)))) 29 [.ref 2, .int (nI n), .int (nI p), .int (nI (frN (nowM σ))), .int (nI J), v5] [] μ
  | m, J, v5, μ, hJm, h, hs, hz => by
    have hw := hW.now
    have hw1 := hw.1
    have h128 := pow2_le hw1
    have h3 := hw.2.2.1
    obtain ⟨r4, r5, r6, r7, r8, rr⟩ := h.2.2.2.1
    refine tr_iload dX7_weighRightOnes_29 rfl ?_
    refine tr_iconst (v := nI 1) dX7_weighRightOnes_31 (by decide) ?_
    refine tr_aload_n dX7_weighRightOnes_32 rfl ?_
    refine tr_getR dX7_weighRightOnes_33 fg_RX7_28 (by first | assumption | decide) (by first | assumption | rfl) rfl (by omega) ?_
    refine tr_getI dX7_weighRightOnes_36 fg_RX7_149 (by first | assumption | decide) (by first | assumption | rfl) rfl (by first | assumption | rfl) ?_
    refine tr_ishl dX7_weighRightOnes_39 ?_
    -- at 40: .if_icmp .ge 99
    refine tr_v (sh1 _ (by omega)) ?_
    refine tr_geN (tgt := 139) dX7_weighRightOnes_40 (by decide) (by omega) (by omega) (fun h1 => ?_) (fun h1 => ?_)
    · have e : J = 2 ^ nowM σ 18 := by omega
      -- at 139: .return_
      refine tr_vret dX7_weighRightOnes_139 (by first | exact trivial | rfl) ⟨hs, by rw [← e]; exact hz⟩
    · refine tr_iload dX7_weighRightOnes_43 rfl ?_
      refine tr_aload_n dX7_weighRightOnes_45 rfl ?_
      refine tr_getR dX7_weighRightOnes_46 fg_RX7_28 (by first | assumption | decide) (by first | assumption | rfl) rfl (by omega) ?_
      refine tr_getI dX7_weighRightOnes_49 fg_RX7_200 (by first | assumption | decide) (by first | assumption | rfl) rfl (by first | assumption | rfl) ?_
      refine tr_iand dX7_weighRightOnes_52 ?_
      -- at 53: .ifCond .ne 80
      refine tr_v (and7 J (by omega) (nowM σ 3) (by omega)) ?_
      have hand : J &&& nowM σ 3 < 2 ^ 31 := Nat.lt_of_le_of_lt Nat.and_le_left (by omega)
      refine tr_ifnN (tgt := 133) dX7_weighRightOnes_53 (by decide) (by omega) (fun h2 => ?_) (fun h2 => ?_)
      · first | with_reducible refine tr_iincN_4 dX7_weighRightOnes_133 (by decide) rfl ?_ | refine tr_iinc_4 dX7_weighRightOnes_133 (by decide) rfl ?_
        refine tr_goto (tgt := 29) dX7_weighRightOnes_136 (by decide) ?_
        -- at 29: .iload 4
        refine l_w1 hW hn hp (m - 1) (J + 1) v5 μ (by omega) h hs (fun q hq => ?_)
        rw [hz q hq, wsM, if_neg (fun e => h2 e.1)]; rfl
      · have ⟨g1, g2⟩ := frN_ge hw h1 h2
        have hfr : frN (nowM σ) ≤ 7 := by unfold frN; omega
        have hwt := wtM_le hw hp h1 h2
        refine tr_aload_n dX7_weighRightOnes_56 rfl ?_
        refine tr_getR dX7_weighRightOnes_57 fg_RX7_31 (by first | assumption | decide) (by first | assumption | rfl) rfl (by omega) ?_
        refine tr_aload_n dX7_weighRightOnes_60 rfl ?_
        refine tr_getR dX7_weighRightOnes_61 fg_RX7_28 (by first | assumption | decide) (by first | assumption | rfl) rfl (by omega) ?_
        -- at 64: .invokevirtual 142
        refine tr_Vv (As := [_]) dX7_weighRightOnes_64 fm_RX7_142 rfl rfl (by first | assumption | decide) (by first | assumption | rfl) (Nat.le_of_ble_eq_true rfl) (c_become (d := d + 3) isB_15 isB_10 (by omega) h.2.2.2.1 hw) (fun μ1 ⟨e1, e2⟩ => ?_)
        have hs1 := sP.of (P := scr) e1 (fun b hb => by simp at hb; unfold scr; omega)
        have k1 : μ1.2 70 = μ.2 70 := congrFun e1.2 70
        have r8' := e2.2.2.2.2.1
        refine tr_aload_n dX7_weighRightOnes_67 rfl ?_
        refine tr_getR dX7_weighRightOnes_68 fg_RX7_31 (by first | assumption | decide) (by first | assumption | rfl) rfl (by omega) ?_
        refine tr_dup dX7_weighRightOnes_71 rfl ?_
        refine tr_getI dX7_weighRightOnes_72 fg_RX7_200 (by first | assumption | decide) (by first | assumption | rfl) rfl (by first | assumption | rfl) ?_
        refine tr_iload dX7_weighRightOnes_75 rfl ?_
        refine tr_ior dX7_weighRightOnes_77 ?_
        -- at 78: .putfield 200
        refine tr_v (or7 (nowM σ 3) (by omega) J (by omega)) ?_
        refine tr_putI dX7_weighRightOnes_78 fp_RX7_200 (by first | assumption | decide) (by first | assumption | rfl) rfl ?_
        -- at 81: .aload_n 0
        have hs2 := hs1.put (a := 15) (upd (μ1.1 15) 8 (nI (nowM σ 3 ||| J))) (by unfold scr; omega)
        have hr2 := e2.setF8 (v := nowM σ 3 ||| J)
        have k2 : (sI μ1 15 (upd (μ1.1 15) 8 (nI (nowM σ 3 ||| J)))).2 70 = μ.2 70 := k1
        generalize sI μ1 15 (upd (μ1.1 15) 8 (nI (nowM σ 3 ||| J))) = μ2 at hs2 hr2 k2 ⊢
        have hw2 := jam_or hw h1
        refine tr_aload_n dX7_weighRightOnes_81 rfl ?_
        refine tr_getR dX7_weighRightOnes_82 fg_RX7_31 (by first | assumption | decide) (by first | assumption | rfl) rfl (by omega) ?_
        refine tr_iload_n dX7_weighRightOnes_85 rfl ?_
        -- at 86: .invokevirtual 211
        refine tr_Vv (As := [_]) dX7_weighRightOnes_86 fm_RX7_211 rfl rfl (by first | assumption | decide) (by first | assumption | rfl) (Nat.le_of_ble_eq_true rfl) (c_stepOn (d := d) (N := n) (by omega) isB_15 hr2 hw2) (fun μ3 ⟨e3, e4⟩ => ?_)
        have hs3 := hs2.trans (sP.of (P := scr) e3 (fun b hb => by simp at hb; unfold scr; omega))
        have k3 : μ3.2 70 = μ.2 70 := (congrFun e3.2 70).trans k2
        have hw3 := goI_wf n _ hw2
        have e18 : goI n (nu (nowM σ) 3 (nowM σ 3 ||| J)) 18 = nowM σ 18 := by rw [goI_keep n _ hw2 18 (by omega) (by omega) (by omega), nu_n _ _ (by omega)]
        refine tr_iload dX7_weighRightOnes_89 rfl ?_
        -- at 91: .invokestatic 203
        refine tr_Si (As := [_]) dX7_weighRightOnes_91 fm_RX7_203 rfl rfl (Nat.le_of_ble_eq_true rfl) (c_bitCount (d := d + 3) (m := J) (by omega)) (fun v μ4 ⟨a1, a2⟩ => ?_)
        subst μ4; subst v
        refine tr_istore_5 dX7_weighRightOnes_94 (by decide) rfl ?_
        refine tr_aload_n dX7_weighRightOnes_96 rfl ?_
        refine tr_getR dX7_weighRightOnes_97 fg_RX7_64 (by first | assumption | decide) (by first | assumption | rfl) rfl (by omega) ?_
        refine tr_aload_n dX7_weighRightOnes_100 rfl ?_
        refine tr_getR dX7_weighRightOnes_101 fg_RX7_31 (by first | assumption | decide) (by first | assumption | rfl) rfl (by omega) ?_
        -- at 104: .invokevirtual 331
        refine tr_Vi (As := []) dX7_weighRightOnes_104 fm_RX7_331 rfl rfl (by first | assumption | decide) (by first | assumption | rfl) (Nat.le_of_ble_eq_true rfl) (c_rightOnes (d := d + 3) isB_15 e4 hw3) (fun v μ4 ⟨a1, a2⟩ => ?_)
        subst μ4; subst v
        rw [e18]
        have hrt := rtM_lt (goI n (nu (nowM σ) 3 (nowM σ 3 ||| J))) (nowM σ 18)
        refine tr_Si (As := [_]) dX7_weighRightOnes_107 fm_RX7_203 rfl rfl (Nat.le_of_ble_eq_true rfl) (c_bitCount (d := d + 3) (m := rtM (goI n (nu (nowM σ) 3 (nowM σ 3 ||| J))) (nowM σ 18)) (by omega)) (fun v μ4 ⟨a1, a2⟩ => ?_)
        subst μ4; subst v
        rw [show onesM 10 (rtM (goI n (nu (nowM σ) 3 (nowM σ 3 ||| J))) (nowM σ 18)) = rgN (nowM σ) n J from rfl]
        have hrg := rgN_lt hw (n := n) (J := J)
        have k4 : μ3.2 70 (rgN (nowM σ) n J) = lN (wsM (nowM σ) n p (rgN (nowM σ) n J) J) := by rw [k3]; exact hz _ hrg
        refine tr_dup2 dX7_weighRightOnes_110 rfl rfl ?_
        refine tr_lald dX7_weighRightOnes_111 (by first | assumption | decide) (by first | assumption | rfl) rfl (by omega) (by omega) (by first | assumption | rfl) ?_
        refine tr_iload_n dX7_weighRightOnes_112 rfl ?_
        refine tr_iload dX7_weighRightOnes_113 rfl ?_
        -- at 115: .invokestatic 316
        refine tr_Si (As := [_, _]) dX7_weighRightOnes_115 fm_RX7_316 rfl rfl (Nat.le_of_ble_eq_true rfl) (c_raised (d := d + 3) (p := p) (e := onesM 10 J) (by omega)) (fun v μ4 ⟨a1, a2⟩ => ?_)
        subst μ4; subst v
        refine tr_bipush (v := nI 12) dX7_weighRightOnes_118 (by decide) ?_
        refine tr_iload_n dX7_weighRightOnes_120 rfl ?_
        first | with_reducible refine tr_isubN dX7_weighRightOnes_121 (by omega) ?_ | refine tr_isub dX7_weighRightOnes_121 ?_
        refine tr_iload_n dX7_weighRightOnes_122 rfl ?_
        refine tr_iload dX7_weighRightOnes_123 rfl ?_
        first | with_reducible refine tr_isubN dX7_weighRightOnes_125 (by omega) ?_ | refine tr_isub dX7_weighRightOnes_125 ?_
        -- at 126: .invokestatic 316
        refine tr_Si (As := [_, _]) dX7_weighRightOnes_126 fm_RX7_316 rfl rfl (Nat.le_of_ble_eq_true rfl) (c_raised (d := d + 3) (p := 12 - p) (e := frN (nowM σ) - onesM 10 J) (by omega)) (fun v μ4 ⟨a1, a2⟩ => ?_)
        subst μ4; subst v
        first | with_reducible refine tr_imulN dX7_weighRightOnes_129 ?_ | refine tr_imul dX7_weighRightOnes_129 ?_
        -- at 130: .i2l
        rw [show p ^ onesM 10 J * (12 - p) ^ (frN (nowM σ) - onesM 10 J) = wtM (nowM σ) p J from rfl]
        refine tr_i2l dX7_weighRightOnes_130 ?_
        -- at 131: .ladd
        rw [nI_l (by omega)]
        refine tr_ladd dX7_weighRightOnes_131 ?_
        -- at 132: .lastore
        rw [lN_add]
        refine tr_last dX7_weighRightOnes_132 (by first | assumption | decide) (by first | assumption | rfl) rfl (by omega) (by omega) ?_
        -- at 133: .iinc 4 1
        have hs4 := hs3.putJ (a := 70) (vp_updL (μ3.2 70) (rgN (nowM σ) n J) (lN (wsM (nowM σ) n p (rgN (nowM σ) n J) J + wtM (nowM σ) p J))) (by unfold scr; omega)
        have hz2 : ∀ q, q < 8 → (sJ μ3 70 (vp_updL (μ3.2 70) (rgN (nowM σ) n J) (lN (wsM (nowM σ) n p (rgN (nowM σ) n J) J + wtM (nowM σ) p J)))).2 70 q = lN (wsM (nowM σ) n p q (J + 1)) := by
          intro q hq
          rw [sJ_same]
          by_cases e : q = rgN (nowM σ) n J
          · subst e; rw [pk_uLs, wsM, if_pos ⟨h2, rfl⟩]
          · rw [pk_uLn e, k3, hz q hq, wsM, if_neg (fun a => e a.2.symm)]; rfl
        generalize sJ μ3 70 (vp_updL (μ3.2 70) (rgN (nowM σ) n J) (lN (wsM (nowM σ) n p (rgN (nowM σ) n J) J + wtM (nowM σ) p J))) = μ5 at hs4 hz2 ⊢
        first | with_reducible refine tr_iincN_4 dX7_weighRightOnes_133 (by decide) rfl ?_ | refine tr_iinc_4 dX7_weighRightOnes_133 (by decide) rfl ?_
        refine tr_goto (tgt := 29) dX7_weighRightOnes_136 (by decide) ?_
        -- at 29: .iload 4
        exact l_w1 hW hn hp (m - 1) (J + 1) _ μ5 (by omega) (h.scr hs4) (hs.trans hs4) hz2
  termination_by m => m
theorem c_weigh (h : CI μ σ) (hW : WI σ) (hn : n ≤ 20) (hp : p ≤ 12) : cp X (d + 5) kX7_weighRightOnes [.ref 2, .int (nI n), .int (nI p)] μ (qv (fun μ' => sP scr μ μ' ∧ ∀ q, q < 8 → μ'.2 70 q = lN (wsM (nowM σ) n p q (2 ^ nowM σ 18)))) := by
  refine cp_of ok_X7_weighRightOnes (L := [.ref 2, .int (nI n), .int (nI p), .float 0, .float 0, .float 0]) rfl ?_
  refine tr_iconst (v := nI 0) dX7_weighRightOnes_0 (by decide) ?_
  refine tr_istore_n_3 dX7_weighRightOnes_1 (by decide) rfl ?_
  -- at 2: .iload_n 3
  refine l_w0 8 0 μ (by omega) (fun q hq => by omega) (fun μ1 a1 a2 => ?_)
  have h1 := h.scr a1
  refine tr_aload_n dX7_weighRightOnes_21 rfl ?_
  -- at 22: .invokevirtual 370
  refine tr_Vi (As := []) dX7_weighRightOnes_22 fm_RX7_370 rfl rfl (by first | assumption | decide) (by first | assumption | rfl) (Nat.le_of_ble_eq_true rfl) (c_free (d := d + 2) h1 hW) (fun v μ2 ⟨e1, e2⟩ => ?_)
  subst μ2; subst v
  refine tr_istore_n_3 dX7_weighRightOnes_25 (by decide) rfl ?_
  refine tr_iconst (v := nI 0) dX7_weighRightOnes_26 (by decide) ?_
  refine tr_istore_4 dX7_weighRightOnes_27 (by decide) rfl ?_
  -- at 29: .iload 4
  exact l_w1 hW hn hp (2 ^ nowM σ 18) 0 _ μ1 (by omega) h1 a1 a2
theorem cha_eq {c : NF} (hw : wfc c) (n p : Nat) (g : Nat → Nat) : chaM c n p g = smN (fun k => g k * wsM c n p k (2 ^ c 18)) 8 := ab_ws c n p g _ (fun q hq => rgN_lt hw)
theorem cha_lt {c : NF} (hw : wfc c) (n : Nat) {p : Nat} (hp : p ≤ 12) {g : Nat → Nat} (hg : ∀ r, r < 8 → g r ≤ 7) : chaM c n p g < 2 ^ 60 := by
  rw [cha_eq hw]
  have h1 := pow2_le hw.1
  refine Nat.lt_of_le_of_lt (smN_le _ (7 * (128 * 35831808)) 8 (fun k hk => ?_)) (by decide)
  have h2 := wsM_le hw (n := n) (k := k) hp (2 ^ c 18) (Nat.le_refl _)
  exact Nat.mul_le_mul (hg k hk) (Nat.le_trans h2 (Nat.mul_le_mul_right _ h1))
theorem samJ.fr71 {μ μ' : am_M} (h : samJ μ μ' 71) : fr μ μ' := fun b hb => ⟨congrFun h.1 b, h.2 b (by omega)⟩
theorem fr12 {c : NF} (hw : wfc c) : 0 < 12 ^ frN c ∧ 12 ^ frN c < 2 ^ 40 := by
  have hw1 := hw.1
  have h7 : frN c ≤ 7 := by unfold frN; omega
  have a4 : 12 ^ frN c ≤ 12 ^ 7 := Nat.pow_le_pow_right (by omega) h7
  have a5 : 12 ^ 7 = 35831808 := by decide
  exact ⟨Nat.pow_pos (by omega), by omega⟩
theorem l_odds {m0 : am_M} {k : Nat} (h : CI μ σ) (hW : WI σ) (hp : p ≤ 12) (hz : ∀ q, q < 8 → μ.2 70 q = lN (wsM (nowM σ) n p q (2 ^ nowM σ 18))) (hf : fr m0 μ) : ∀ (m q : Nat), q + m = 8 → k ≤ q → tw X (d + 4) kX7_odds (PO m0 (1, tellM σ (chaM (nowM σ) n p (fun r => if k ≤ r then 1 else 0)))) 45 [.ref 2, .int (nI k), .int (nI n), .int (nI p), .long (lN (smN (fun r => (if k ≤ r then 1 else 0) * wsM (nowM σ) n p r (2 ^ nowM σ 18)) q)), .float 0, .int (nI q)] [] μ
  | m, q, hqm, hkq => by
    have hw := hW.now
    refine tr_iload dX7_odds_45 rfl ?_
    refine tr_bipush (v := nI 7) dX7_odds_47 (by decide) ?_
    -- at 49: .if_icmp .gt 21
    refine tr_gtN (tgt := 70) dX7_odds_49 (by decide) (by omega) (by omega) (fun h1 => ?_) (fun h1 => ?_)
    · obtain rfl : q = 8 := by omega
      rw [← cha_eq hw n p (fun r => if k ≤ r then 1 else 0)]
      have hlt := cha_lt hw n hp (g := fun r => if k ≤ r then 1 else 0) (fun r hr => by split <;> omega)
      generalize chaM (nowM σ) n p (fun r => if k ≤ r then 1 else 0) = a at hlt ⊢
      have ⟨g1, g2⟩ := fr12 hw
      refine tr_aload_n dX7_odds_70 rfl ?_
      refine tr_getR dX7_odds_71 fg_RX7_71 (by first | assumption | decide) (by first | assumption | rfl) rfl (by omega) ?_
      refine tr_lload dX7_odds_74 rfl ?_
      refine tr_aload_n dX7_odds_76 rfl ?_
      -- at 77: .invokevirtual 277
      refine tr_Vl (As := []) dX7_odds_77 fm_RX7_277 rfl rfl (by first | assumption | decide) (by first | assumption | rfl) (Nat.le_of_ble_eq_true rfl) (c_wall (d := d + 1) h hW) (fun v μ1 ⟨e1, e2⟩ => ?_)
      subst μ1; subst v
      refine tr_Vv (As := [_, _]) dX7_odds_80 fm_RX7_281 rfl rfl (by first | assumption | decide) (by first | assumption | rfl) (Nat.le_of_ble_eq_true rfl) (c_tell (d := d + 2) hlt g2 g1) (fun μ1 ⟨e1, e2, e3⟩ => ?_)
      refine tr_iconst (v := nI 1) dX7_odds_83 (by decide) ?_
      -- at 84: .ireturn
      refine tr_iret dX7_odds_84 (by first | exact trivial | rfl) ⟨rfl, h.share e1 e2 e3, hf.trans e1.fr71⟩
    · have k1 := hz q (by omega)
      have e : smN (fun r => (if k ≤ r then 1 else 0) * wsM (nowM σ) n p r (2 ^ nowM σ 18)) q + wsM (nowM σ) n p q (2 ^ nowM σ 18) = smN (fun r => (if k ≤ r then 1 else 0) * wsM (nowM σ) n p r (2 ^ nowM σ 18)) (q + 1) := by rw [smN, if_pos hkq, Nat.one_mul]
      refine tr_lload dX7_odds_52 rfl ?_
      refine tr_aload_n dX7_odds_54 rfl ?_
      refine tr_getR dX7_odds_55 fg_RX7_64 (by first | assumption | decide) (by first | assumption | rfl) rfl (by omega) ?_
      refine tr_iload dX7_odds_58 rfl ?_
      refine tr_lald dX7_odds_60 (by first | assumption | decide) (by first | assumption | rfl) rfl (by omega) (by omega) (by first | assumption | rfl) ?_
      refine tr_ladd dX7_odds_61 ?_
      -- at 62: .lstore 4
      rw [lN_add, e]
      refine tr_lstore_4 dX7_odds_62 (by decide) rfl ?_
      first | with_reducible refine tr_iincN_6 dX7_odds_64 (by decide) rfl ?_ | refine tr_iinc_6 dX7_odds_64 (by decide) rfl ?_
      refine tr_goto (tgt := 45) dX7_odds_67 (by decide) ?_
      -- at 45: .iload 6
      exact l_odds h hW hp hz hf (m - 1) (q + 1) (by omega) (by omega)
  termination_by m => m
theorem f_odds (h : CI μ σ) (hW : WI σ) : cp X (d + 6) kX7_odds [.ref 2, .int x, .int y, .int z] μ (PO μ (S_odds σ x y z)) := by
  have hw := hW.now
  have hw1 := hw.1
  have r4 := h.2.2.2.1.1
  refine cp_of ok_X7_odds (L := [.ref 2, .int x, .int y, .int z, .float 0, .float 0, .float 0]) rfl ?_
  have hbad : S_odds σ x y z = (-1, σ) → tw X (d + 5) kX7_odds (PO μ (S_odds σ x y z)) 18 [.ref 2, .int x, .int y, .int z, .float 0, .float 0, .float 0] [] μ := by
    intro e
    refine tr_iconst (v := -1) dX7_odds_18 (by decide) ?_
    -- at 19: .ireturn
    refine tr_iret dX7_odds_19 (by first | exact trivial | rfl) (po_same h e)
  cases hx : ixV x 8 with
  | none =>
    have e : S_odds σ x y z = (-1, σ) := by simp only [S_odds, hx]
    refine tr_iload_n dX7_odds_0 rfl ?_
    -- at 1: .ifCond .lt 17
    refine tr_if_lt (tgt := 18) dX7_odds_1 (by decide) (fun h1 => ?_) (fun h1 => ?_)
    · exact hbad e
    · refine tr_iload_n dX7_odds_4 rfl ?_
      refine tr_bipush (v := nI 7) dX7_odds_5 (by decide) ?_
      -- at 7: .if_icmp .gt 11
      refine tr_icmp_gt (tgt := 18) dX7_odds_7 (by decide) (fun h2 => ?_) (fun h2 => ?_)
      · exact hbad e
      · obtain ⟨a, ha, rfl⟩ := nI_of h1
        have a2 : a ≤ 7 := (nI_leI (b := 7) ha (by omega)).mp (Int32.not_lt.mp h2)
        rw [ixV_nI (by omega) (by omega)] at hx
        cases hx
  | some k =>
    obtain ⟨rfl, hk⟩ := ixV_some (by omega) hx
    refine tr_iload_n dX7_odds_0 rfl ?_
    -- at 1: .ifCond .lt 17
    refine tr_if_lt (tgt := 18) dX7_odds_1 (by decide) (fun h1 => ?_) (fun h1 => ?_)
    · exact absurd h1 (nI_pos (by omega))
    · refine tr_iload_n dX7_odds_4 rfl ?_
      refine tr_bipush (v := nI 7) dX7_odds_5 (by decide) ?_
      -- at 7: .if_icmp .gt 11
      refine tr_gtN (tgt := 18) dX7_odds_7 (by decide) (by omega) (by omega) (fun h2 => ?_) (fun h2 => ?_)
      · omega
      · refine tr_iload_n dX7_odds_10 rfl ?_
        refine tr_iload_n dX7_odds_11 rfl ?_
        -- at 12: .invokestatic 271
        refine tr_Si (As := [_, _]) dX7_odds_12 fm_RX7_271 rfl rfl (Nat.le_of_ble_eq_true rfl) (c_chances (d := d + 4)) (fun v μ1 ⟨e1, e2⟩ => ?_)
        subst μ1; subst v
        cases hy : ixV y 21 with
        | none =>
          refine tr_ifb1 (tgt := 20) dX7_odds_15 (by decide) (fun h3 => ?_) (fun h3 => ?_)
          · cases h3
          · exact hbad (by simp only [S_odds, hx, hy])
        | some n =>
          cases hz : ixV z 13 with
          | none =>
            refine tr_ifb1 (tgt := 20) dX7_odds_15 (by decide) (fun h3 => ?_) (fun h3 => ?_)
            · cases h3
            · exact hbad (by simp only [S_odds, hx, hy, hz])
          | some p =>
            obtain ⟨rfl, hn⟩ := ixV_some (by omega) hy
            obtain ⟨rfl, hp⟩ := ixV_some (by omega) hz
            have e : S_odds σ (nI k) (nI n) (nI p) = if nowM σ 18 = 0 then (-4, σ) else (1, tellM σ (chaM (nowM σ) n p (fun r => if k ≤ r then 1 else 0))) := by simp only [S_odds, hx, hy, hz]
            rw [e]
            refine tr_ifb1 (tgt := 20) dX7_odds_15 (by decide) (fun h3 => ?_) (fun h3 => ?_)
            · refine tr_aload_n dX7_odds_20 rfl ?_
              refine tr_getR dX7_odds_21 fg_RX7_28 (by first | assumption | decide) (by first | assumption | rfl) rfl (by omega) ?_
              refine tr_getI dX7_odds_24 fg_RX7_149 (by first | assumption | decide) (by first | assumption | rfl) rfl (by first | assumption | rfl) ?_
              -- at 27: .ifCond .ne 6
              refine tr_ifnN (tgt := 33) dX7_odds_27 (by decide) (by omega) (fun h4 => ?_) (fun h4 => ?_)
              · rw [if_neg h4]
                refine tr_aload_n dX7_odds_33 rfl ?_
                refine tr_iload_n dX7_odds_34 rfl ?_
                refine tr_iload_n dX7_odds_35 rfl ?_
                -- at 36: .invokevirtual 274
                refine tr_Vv (As := [_, _]) dX7_odds_36 fm_RX7_274 rfl rfl (by first | assumption | decide) (by first | assumption | rfl) (Nat.le_of_ble_eq_true rfl) (c_weigh (d := d) h hW (n := n) (p := p) (by omega) (by omega)) (fun μ1 ⟨e1, e2⟩ => ?_)
                refine tr_lconst (v := lN 0) dX7_odds_39 (by decide) ?_
                refine tr_lstore_4 dX7_odds_40 (by decide) rfl ?_
                refine tr_iload_n dX7_odds_42 rfl ?_
                refine tr_istore_6 dX7_odds_43 (by decide) rfl ?_
                -- at 45: .iload 6
                have e0 : smN (fun r => (if k ≤ r then 1 else 0) * wsM (nowM σ) n p r (2 ^ nowM σ 18)) k = 0 := smN_0 _ k (fun r hr => by rw [if_neg (by omega), Nat.zero_mul])
                have key := l_odds (X := X) (d := d + 1) (k := k) (h.scr e1) hW (by omega) e2 (e1.fr (fun b hb => by unfold scr at hb; omega)) (8 - k) k (by omega) (Nat.le_refl k)
                rw [e0] at key
                exact key
              · rw [if_pos (by omega)]
                refine tr_bipush (v := -4) dX7_odds_30 (by decide) ?_
                -- at 32: .ireturn
                refine tr_iret dX7_odds_32 (by first | exact trivial | rfl) ⟨rfl, h, fr.rf μ⟩
            · cases h3
theorem l_mid {m0 : am_M} (h : CI μ σ) (hW : WI σ) (hp : p ≤ 12) (hz : ∀ q, q < 8 → μ.2 70 q = lN (wsM (nowM σ) n p q (2 ^ nowM σ 18))) (hf : fr m0 μ) : ∀ (m q : Nat), q + m = 8 → tw X (d + 4) kX7_mid (PO m0 (1, tellM σ (chaM (nowM σ) n p (fun r => r)))) 34 [.ref 2, .int (nI n), .int (nI p), .long (lN (smN (fun r => r * wsM (nowM σ) n p r (2 ^ nowM σ 18)) q)), .float 0, .int (nI q)] [] μ
  | m, q, hqm => by
    have hw := hW.now
    refine tr_iload dX7_mid_34 rfl ?_
    refine tr_bipush (v := nI 7) dX7_mid_36 (by decide) ?_
    -- at 38: .if_icmp .gt 23
    refine tr_gtN (tgt := 61) dX7_mid_38 (by decide) (by omega) (by omega) (fun h1 => ?_) (fun h1 => ?_)
    · obtain rfl : q = 8 := by omega
      rw [← cha_eq hw n p (fun r => r)]
      have hlt := cha_lt hw n hp (g := fun r => r) (fun r hr => by omega)
      generalize chaM (nowM σ) n p (fun r => r) = a at hlt ⊢
      have ⟨g1, g2⟩ := fr12 hw
      refine tr_aload_n dX7_mid_61 rfl ?_
      refine tr_getR dX7_mid_62 fg_RX7_71 (by first | assumption | decide) (by first | assumption | rfl) rfl (by omega) ?_
      refine tr_lload_n dX7_mid_65 rfl ?_
      refine tr_aload_n dX7_mid_66 rfl ?_
      -- at 67: .invokevirtual 277
      refine tr_Vl (As := []) dX7_mid_67 fm_RX7_277 rfl rfl (by first | assumption | decide) (by first | assumption | rfl) (Nat.le_of_ble_eq_true rfl) (c_wall (d := d + 1) h hW) (fun v μ1 ⟨e1, e2⟩ => ?_)
      subst μ1; subst v
      refine tr_Vv (As := [_, _]) dX7_mid_70 fm_RX7_281 rfl rfl (by first | assumption | decide) (by first | assumption | rfl) (Nat.le_of_ble_eq_true rfl) (c_tell (d := d + 2) hlt g2 g1) (fun μ1 ⟨e1, e2, e3⟩ => ?_)
      refine tr_iconst (v := nI 1) dX7_mid_73 (by decide) ?_
      -- at 74: .ireturn
      refine tr_iret dX7_mid_74 (by first | exact trivial | rfl) ⟨rfl, h.share e1 e2 e3, hf.trans e1.fr71⟩
    · have k1 := hz q (by omega)
      refine tr_lload_n dX7_mid_41 rfl ?_
      refine tr_iload dX7_mid_42 rfl ?_
      refine tr_i2l dX7_mid_44 ?_
      -- at 45: .aload_n 0
      rw [nI_l (by omega)]
      refine tr_aload_n dX7_mid_45 rfl ?_
      refine tr_getR dX7_mid_46 fg_RX7_64 (by first | assumption | decide) (by first | assumption | rfl) rfl (by omega) ?_
      refine tr_iload dX7_mid_49 rfl ?_
      refine tr_lald dX7_mid_51 (by first | assumption | decide) (by first | assumption | rfl) rfl (by omega) (by omega) (by first | assumption | rfl) ?_
      refine tr_lmul dX7_mid_52 ?_
      -- at 53: .ladd
      rw [lN_mul]
      refine tr_ladd dX7_mid_53 ?_
      -- at 54: .lstore_n 3
      rw [lN_add]
      refine tr_lstore_n_3 dX7_mid_54 (by decide) rfl ?_
      first | with_reducible refine tr_iincN_5 dX7_mid_55 (by decide) rfl ?_ | refine tr_iinc_5 dX7_mid_55 (by decide) rfl ?_
      refine tr_goto (tgt := 34) dX7_mid_58 (by decide) ?_
      -- at 34: .iload 5
      exact l_mid h hW hp hz hf (m - 1) (q + 1) (by omega)
  termination_by m => m
theorem f_mid (h : CI μ σ) (hW : WI σ) : cp X (d + 6) kX7_mid [.ref 2, .int y, .int z] μ (PO μ (S_mid σ y z)) := by
  have hw := hW.now
  have hw1 := hw.1
  have r4 := h.2.2.2.1.1
  refine cp_of ok_X7_mid (L := [.ref 2, .int y, .int z, .float 0, .float 0, .float 0]) rfl ?_
  have hbad : S_mid σ y z = (-1, σ) → tw X (d + 5) kX7_mid (PO μ (S_mid σ y z)) 8 [.ref 2, .int y, .int z, .float 0, .float 0, .float 0] [] μ := by
    intro e
    refine tr_iconst (v := -1) dX7_mid_8 (by decide) ?_
    -- at 9: .ireturn
    refine tr_iret dX7_mid_9 (by first | exact trivial | rfl) (po_same h e)
  refine tr_iload_n dX7_mid_0 rfl ?_
  refine tr_iload_n dX7_mid_1 rfl ?_
  -- at 2: .invokestatic 271
  refine tr_Si (As := [_, _]) dX7_mid_2 fm_RX7_271 rfl rfl (Nat.le_of_ble_eq_true rfl) (c_chances (d := d + 4)) (fun v μ1 ⟨e1, e2⟩ => ?_)
  subst μ1; subst v
  cases hy : ixV y 21 with
  | none =>
    refine tr_ifb1 (tgt := 10) dX7_mid_5 (by decide) (fun h3 => ?_) (fun h3 => ?_)
    · cases h3
    · exact hbad (by simp only [S_mid, hy])
  | some n =>
    cases hz : ixV z 13 with
    | none =>
      refine tr_ifb1 (tgt := 10) dX7_mid_5 (by decide) (fun h3 => ?_) (fun h3 => ?_)
      · cases h3
      · exact hbad (by simp only [S_mid, hy, hz])
    | some p =>
      obtain ⟨rfl, hn⟩ := ixV_some (by omega) hy
      obtain ⟨rfl, hp⟩ := ixV_some (by omega) hz
      have e : S_mid σ (nI n) (nI p) = if nowM σ 18 = 0 then (-4, σ) else (1, tellM σ (chaM (nowM σ) n p (fun r => r))) := by simp only [S_mid, hy, hz]
      rw [e]
      refine tr_ifb1 (tgt := 10) dX7_mid_5 (by decide) (fun h3 => ?_) (fun h3 => ?_)
      · refine tr_aload_n dX7_mid_10 rfl ?_
        refine tr_getR dX7_mid_11 fg_RX7_28 (by first | assumption | decide) (by first | assumption | rfl) rfl (by omega) ?_
        refine tr_getI dX7_mid_14 fg_RX7_149 (by first | assumption | decide) (by first | assumption | rfl) rfl (by first | assumption | rfl) ?_
        -- at 17: .ifCond .ne 6
        refine tr_ifnN (tgt := 23) dX7_mid_17 (by decide) (by omega) (fun h4 => ?_) (fun h4 => ?_)
        · rw [if_neg h4]
          refine tr_aload_n dX7_mid_23 rfl ?_
          refine tr_iload_n dX7_mid_24 rfl ?_
          refine tr_iload_n dX7_mid_25 rfl ?_
          -- at 26: .invokevirtual 274
          refine tr_Vv (As := [_, _]) dX7_mid_26 fm_RX7_274 rfl rfl (by first | assumption | decide) (by first | assumption | rfl) (Nat.le_of_ble_eq_true rfl) (c_weigh (d := d) h hW (n := n) (p := p) (by omega) (by omega)) (fun μ1 ⟨e1, e2⟩ => ?_)
          refine tr_lconst (v := lN 0) dX7_mid_29 (by decide) ?_
          refine tr_lstore_n_3 dX7_mid_30 (by decide) rfl ?_
          refine tr_iconst (v := nI 0) dX7_mid_31 (by decide) ?_
          refine tr_istore_5 dX7_mid_32 (by decide) rfl ?_
          -- at 34: .iload 5
          exact l_mid (d := d + 1) (h.scr e1) hW (by omega) e2 (e1.fr (fun b hb => by unfold scr at hb; omega)) 8 0 (by omega)
        · rw [if_pos (by omega)]
          refine tr_bipush (v := -4) dX7_mid_20 (by decide) ?_
          -- at 22: .ireturn
          refine tr_iret dX7_mid_22 (by first | exact trivial | rfl) ⟨rfl, h, fr.rf μ⟩
      · cases h3
end F10
