-- ===== boards: what steps keep; told; right ones; numbers; messages =====
theorem goM_keep : ∀ (m i n : Nat) (c : NF) (j : Nat), (j < 4 + i ∨ 4 + i + m ≤ j) → (goM m i n c).1 j = c j
  | 0, i, n, c, j, _ => rfl
  | m + 1, i, n, c, j, h => by
    unfold goM
    split
    · split
      · rw [goM_keep m (i + 1) (n + 1) _ j (by omega), nu_n _ _ (by omega)]
      · rw [goM_keep m (i + 1) n _ j (by omega)]
    · rfl
theorem goM_wf : ∀ (m i n : Nat) (c : NF), i + m ≤ 7 → wfc c → wfc (goM m i n c).1
  | 0, i, n, c, _, h => h
  | m + 1, i, n, c, hi, h => by
    unfold goM
    split
    · split
      · exact goM_wf m (i + 1) (n + 1) _ (by omega) (h.show (by omega) (trnM_lt _ _ _ _))
      · exact goM_wf m (i + 1) n _ (by omega) h
    · exact h
theorem goM_jam : ∀ (m i n : Nat) (c : NF) (q : Nat), jmM c q = true → (goM m i n c).1 (4 + q) = c (4 + q)
  | 0, i, n, c, q, _ => rfl
  | m + 1, i, n, c, q, h => by
    unfold goM
    split
    · split
      · rename_i h2
        have hq : q ≠ i := by
          intro e
          subst e
          rw [h] at h2
          simp at h2
        have hj : jmM (nu c (4 + i) (nxM c i)) q = true := by
          unfold jmM
          rw [nu_n _ _ (by omega)]
          exact h
        rw [goM_jam m (i + 1) (n + 1) _ q hj, nu_n _ _ (by omega)]
      · exact goM_jam m (i + 1) n c q h
    · rfl
theorem goC_wf {c : NF} (h : wfc c) : wfc (goC c) := ((goM_wf _ _ _ _ (by have := h.1; omega) h).nu1 _).nu2 _
theorem goC_keep {c : NF} (h : wfc c) {j : Nat} (h1 : j ≠ 1) (h2 : j ≠ 2) (h3 : j < 4 ∨ 11 ≤ j) : goC c j = c j := by
  have := h.1
  unfold goC
  rw [nu_n _ _ h2, nu_n _ _ h1, goM_keep _ _ _ _ _ (by omega)]
theorem goC_1 (c : NF) : goC c 1 = c 1 + 1 := by unfold goC; rw [nu_n _ _ (by omega), nu_s]
theorem goC_2 (c : NF) : goC c 2 = c 2 + goN c := by unfold goC; rw [nu_s]; rfl
def goI : Nat → NF → NF
  | 0, c => c
  | n + 1, c => goI n (goC c)
theorem goI_wf : ∀ (n : Nat) (c : NF), wfc c → wfc (goI n c)
  | 0, _, h => h
  | n + 1, c, h => goI_wf n _ (goC_wf h)
theorem goI_keep : ∀ (n : Nat) (c : NF), wfc c → ∀ j, j ≠ 1 → j ≠ 2 → (j < 4 ∨ 11 ≤ j) → goI n c j = c j
  | 0, _, _, _, _, _, _ => rfl
  | n + 1, c, h, j, h1, h2, h3 => by rw [goI, goI_keep n _ (goC_wf h) j h1 h2 h3, goC_keep h h1 h2 h3]
theorem goI_1 : ∀ (n : Nat) (c : NF), goI n c 1 = c 1 + n
  | 0, _ => rfl
  | n + 1, c => by rw [goI, goI_1 n, goC_1]; omega
def toldM (c : NF) : Bool := decide (∀ i, i < c 18 → c (4 + i) = c (11 + i))
def tM : Nat → NF → Nat
  | 0, _ => 0
  | m + 1, c => if toldM c = true then 0 else 1 + tM m (goC c)
theorem tM_le : ∀ (m : Nat) (c : NF), tM m c ≤ m
  | 0, _ => Nat.le_refl _
  | m + 1, c => by
    unfold tM
    split
    · omega
    · have := tM_le m (goC c); omega
theorem tM_stuck : ∀ (m : Nat) (c : NF) (i : Nat), wfc c → i < c 18 → jmM c i = true → c (4 + i) ≠ c (11 + i) → tM m c = m
  | 0, _, _, _, _, _, _ => rfl
  | m + 1, c, i, hw, hi, hj, hne => by
    have h1 := hw.1
    have hf : ¬ toldM c = true := fun q => hne (of_decide_eq_true q i hi)
    have e4 : goC c (4 + i) = c (4 + i) := by
      unfold goC
      rw [nu_n _ _ (by omega), nu_n _ _ (by omega), goM_jam _ _ _ _ _ hj]
    have hj2 : jmM (goC c) i = true := by
      unfold jmM
      rw [goC_keep hw (by omega) (by omega) (by omega)]
      exact hj
    rw [tM, if_neg hf, tM_stuck m (goC c) i (goC_wf hw) (by rw [goC_keep hw (by omega) (by omega) (by omega)]; exact hi) hj2 (by rw [e4, goC_keep hw (by omega) (by omega) (by omega)]; exact hne)]
    omega
def rtM (c : NF) : Nat → Nat
  | 0 => 0
  | i + 1 => rtM c i + (if c (4 + i) = c (11 + i) then 2 ^ i else 0)
theorem rtM_lt (c : NF) : ∀ n, rtM c n < 2 ^ n
  | 0 => by simp [rtM]
  | n + 1 => by
    have := rtM_lt c n
    rw [rtM, Nat.pow_succ]
    split <;> omega
theorem rtM_bit (c : NF) : ∀ n i, (rtM c n).testBit i = (decide (i < n) && decide (c (4 + i) = c (11 + i)))
  | 0, i => by simp [rtM]
  | n + 1, i => by
    have hlt := rtM_lt c n
    rw [rtM]
    by_cases h : c (4 + n) = c (11 + n)
    · rw [if_pos h, Nat.add_comm]
      by_cases e : i = n
      · subst e
        rw [Nat.testBit_two_pow_add_eq, Nat.testBit_lt_two_pow hlt]
        simp [h]
      · rcases Nat.lt_or_ge i n with hl | hl
        · rw [Nat.testBit_two_pow_add_gt hl, rtM_bit c n i]
          simp [hl, Nat.lt_succ_of_lt hl]
        · have hb : 2 ^ n + rtM c n < 2 ^ i := by
            have : 2 ^ (n + 1) ≤ 2 ^ i := Nat.pow_le_pow_right (by omega) (by omega)
            rw [Nat.pow_succ] at this
            omega
          rw [Nat.testBit_lt_two_pow hb]
          have : ¬ i < n + 1 := by omega
          simp [this]
    · rw [if_neg h, Nat.add_zero, rtM_bit c n i]
      by_cases e : i = n
      · subst e; simp [h]
      · rcases Nat.lt_or_ge i n with hl | hl
        · simp [hl, Nat.lt_succ_of_lt hl]
        · have h1 : ¬ i < n := by omega
          have h2 : ¬ i < n + 1 := by omega
          simp [h1, h2]
theorem jam_right : ∀ j, j < 128 → ∀ r, r < 128 → ((nI j &&& (nI r ^^^ (-1))) = 0 ↔ j &&& r = j) := by decide +kernel
theorem or_bit : ∀ i, i < 7 → ∀ r, r < 2 ^ i → nI r ||| (nI 1 <<< (nI i &&& 31)) = nI (r + 2 ^ i) := by decide +kernel
theorem jam_all {c : NF} (h : c 3 &&& rtM c (c 18) = c 3) : ∀ i, jmM c i = true → c (4 + i) = c (11 + i) := by
  intro i hi
  have h1 : (c 3 &&& rtM c (c 18)).testBit i = true := by rw [h]; exact hi
  rw [Nat.testBit_and, rtM_bit] at h1
  simp at h1
  exact h1.2.2
theorem jam_some {c : NF} (hw : wfc c) (h : ¬ c 3 &&& rtM c (c 18) = c 3) : ∃ i, i < c 18 ∧ jmM c i = true ∧ c (4 + i) ≠ c (11 + i) := by
  refine Decidable.byContradiction fun hn => h ?_
  apply Nat.eq_of_testBit_eq
  intro i
  rw [Nat.testBit_and, rtM_bit]
  by_cases hj : (c 3).testBit i = true
  · have hi : i < c 18 := by
      refine Decidable.byContradiction fun q => ?_
      have : c 3 < 2 ^ i := Nat.lt_of_lt_of_le hw.2.2.1 (Nat.pow_le_pow_right (by omega) (by omega))
      rw [Nat.testBit_lt_two_pow this] at hj
      cases hj
    have he : c (4 + i) = c (11 + i) := Decidable.byContradiction fun q => hn ⟨i, hi, hj, q⟩
    simp [hj, hi, he]
  · simp at hj
    simp [hj]
def numM (c : NF) : Nat → Nat
  | 0 => 0
  | i + 1 => numM c i * 10 + c (4 + i)
def aimM : Nat → Nat → NF → NF
  | 0, _, c => c
  | i + 1, r, c => aimM i (r / 10) (nu c (11 + i) (r % 10))
theorem aimM_wf : ∀ (i r : Nat) (c : NF), i ≤ 7 → wfc c → wfc (aimM i r c)
  | 0, _, _, _, h => h
  | i + 1, r, c, hi, h => aimM_wf i (r / 10) _ (by omega) (h.goal (by omega) (by omega))
theorem aimM_keep : ∀ (i r : Nat) (c : NF) (j : Nat), (j < 11 ∨ 11 + i ≤ j) → aimM i r c j = c j
  | 0, _, _, _, _ => rfl
  | i + 1, r, c, j, h => by rw [aimM, aimM_keep i _ _ j (by omega), nu_n _ _ (by omega)]
def isM (k o : Nat) : Bool := decide (k = o) || decide (o = 0) || (decide (k = 4) && decide (o = 1)) || (decide (k = 5) && decide (o = 2))
def cntM (c : NF) (o : Nat) : Nat → Nat
  | 0 => 0
  | i + 1 => cntM c o i + bN (isM (c (19 + i)) o)
-- deeds
def doM (dd : Nat) (c : NF) : NF := if dd / 256 = 0 then goC c else if dd / 256 = 1 then nu c (11 + dd / 16 % 16) (dd % 16) else if dd / 256 = 2 then nu c 0 (dd % 16) else if dd / 256 = 3 then nu c 3 (c 3 ^^^ 2 ^ (dd / 16 % 16)) else c
def dOK (n dd : Nat) : Prop := dd < 1280 ∧ (dd / 256 = 1 → dd / 16 % 16 < n ∧ dd % 16 < 10) ∧ (dd / 256 = 2 → dd % 16 ≤ 9) ∧ (dd / 256 = 3 → dd / 16 % 16 < n)
theorem wfc.power {c : NF} (h : wfc c) {v : Nat} (hv : v ≤ 9) : wfc (nu c 0 v) := by
  obtain ⟨h1, h2, h3, h4⟩ := h
  refine ⟨by rw [nu_n _ _ (by omega)]; exact h1, by rw [nu_s]; exact hv, ?_, fun i hi => ?_⟩
  · rw [nu_n _ _ (by omega), nu_n _ _ (by omega)]; exact h3
  · rw [nu_n _ _ (by omega), nu_n _ _ (by omega), nu_n _ _ (by omega), nu_n _ _ (by omega)]; exact h4 i hi
theorem wfc.setjam {c : NF} (h : wfc c) {v : Nat} (hv : v < 2 ^ c 18) : wfc (nu c 3 v) := by
  obtain ⟨h1, h2, h3, h4⟩ := h
  refine ⟨by rw [nu_n _ _ (by omega)]; exact h1, by rw [nu_n _ _ (by omega)]; exact h2, ?_, fun i hi => ?_⟩
  · rw [nu_s, nu_n _ _ (by omega)]; exact hv
  · rw [nu_n _ _ (by omega), nu_n _ _ (by omega), nu_n _ _ (by omega), nu_n _ _ (by omega)]; exact h4 i hi
theorem xor_lt {a n q : Nat} (h : a < 2 ^ n) (hq : q < n) : a ^^^ 2 ^ q < 2 ^ n := Nat.xor_lt_two_pow h (Nat.pow_lt_pow_right (by omega) hq)
theorem doM_wf {c : NF} {dd : Nat} (h : wfc c) (hd : dOK (c 18) dd) : wfc (doM dd c) := by
  have h1 := h.1
  unfold doM
  split
  · exact goC_wf h
  · split
    · rename_i e; obtain ⟨q1, q2⟩ := hd.2.1 e; exact h.goal (by omega) q2
    · split
      · rename_i e; exact h.power (hd.2.2.1 e)
      · split
        · rename_i e; exact h.setjam (xor_lt h.2.2.1 (hd.2.2.2 e))
        · exact h
theorem doM_18 {c : NF} {dd : Nat} (h : wfc c) (hd : dOK (c 18) dd) : doM dd c 18 = c 18 := by
  have h1 := h.1
  unfold doM
  split
  · exact goC_keep h (by omega) (by omega) (by omega)
  · split
    · rename_i e; obtain ⟨q1, q2⟩ := hd.2.1 e; rw [nu_n _ _ (by omega)]
    · split
      · rw [nu_n _ _ (by omega)]
      · split
        · rw [nu_n _ _ (by omega)]
        · rfl
theorem dd_what : ∀ dd, dd < 1280 → nI dd >>> (nI 8 &&& 31) = nI (dd / 256) := by decide +kernel
theorem dd_drum : ∀ dd, dd < 1280 → (nI dd >>> (nI 4 &&& 31)) &&& nI 15 = nI (dd / 16 % 16) := by decide +kernel
theorem dd_value : ∀ dd, dd < 1280 → nI dd &&& nI 15 = nI (dd % 16) := by decide +kernel
theorem dd_packed : ∀ w, w < 5 → ∀ q, q < 16 → ∀ v, v < 16 → ((nI w <<< (nI 8 &&& 31)) ||| (nI q <<< (nI 4 &&& 31))) ||| nI v = nI (256 * w + 16 * q + v) := by decide +kernel
theorem jam_flip : ∀ j, j < 128 → ∀ i, i < 7 → nI j ^^^ (nI 1 <<< (nI i &&& 31)) = nI (j ^^^ 2 ^ i) := by decide +kernel
