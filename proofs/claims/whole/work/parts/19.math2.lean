-- ===== rows and texts; reading a board's text =====
abbrev RV : Type := Option (Nat × (Nat → Int32))
def skB (n : Nat) (f : Nat → Int32) : Nat → Nat → Nat
  | 0, i => i
  | m + 1, i => if i < n ∧ f i = 32 then skB n f m (i + 1) else i
def skS (n : Nat) (f : Nat → Int32) (i : Nat) : Nat := skB n f (n - i) i
theorem skS_go {n : Nat} {f : Nat → Int32} {i : Nat} (h1 : i < n) (h2 : f i = 32) : skS n f i = skS n f (i + 1) := by
  unfold skS
  rw [show n - i = (n - (i + 1)) + 1 by omega, skB, if_pos ⟨h1, h2⟩]
theorem skS_stop {n : Nat} {f : Nat → Int32} {i : Nat} (h : ¬ (i < n ∧ f i = 32)) : skS n f i = i := by
  unfold skS
  cases n - i with
  | zero => rfl
  | succ m => rw [skB, if_neg h]
theorem skB_le (n : Nat) (f : Nat → Int32) : ∀ (m i : Nat), i ≤ n → skB n f m i ≤ n
  | 0, i, h => h
  | m + 1, i, h => by
    unfold skB
    split
    · rename_i q; exact skB_le n f m (i + 1) (by omega)
    · exact h
theorem skS_le {n : Nat} {f : Nat → Int32} {i : Nat} (h : i ≤ n) : skS n f i ≤ n := skB_le n f _ i h
def kdV (x : Int32) : Option Nat := if x = 102 then some 0 else if x = 115 then some 1 else if x = 107 then some 2 else if x = 98 then some 3 else if x = 116 then some 4 else if x = 113 then some 5 else none
theorem kdV_lt {x : Int32} {k : Nat} (h : kdV x = some k) : k < 6 := by
  unfold kdV at h
  repeat' split at h
  all_goals first | (cases h; omega) | cases h
def isFig (lo : Nat) (x : Int32) : Bool := decide (nI (48 + lo) ≤ x ∧ x < nI 58)
def figV (x : Int32) : Nat := x.toNatClampNeg - 48
theorem isFig_v {lo : Nat} {x : Int32} (hl : lo ≤ 1) (h : isFig lo x = true) : x = nI (48 + figV x) ∧ figV x < 10 ∧ lo ≤ figV x := by
  obtain ⟨h1, h2⟩ := of_decide_eq_true h
  have hx : ¬ x < 0 := by
    intro q
    rw [Int32.lt_iff_toInt_lt] at q
    rw [Int32.le_iff_toInt_le, nI_toInt (by omega)] at h1
    have : (0 : Int32).toInt = 0 := rfl
    omega
  obtain ⟨j, hj, rfl⟩ := nI_of hx
  have a1 := (nI_leI (by omega) hj).mp h1
  have a2 := (nI_ltI hj (by omega)).mp h2
  unfold figV
  rw [nI_clamp hj]
  refine ⟨?_, by omega, by omega⟩
  congr 1
  omega
def addC (c : NF) (kd sh mk : Nat) : NF := nu (nu (nu (nu (nu c (19 + c 18) kd) (4 + c 18) sh) (11 + c 18) sh) (26 + c 18) mk) 18 (c 18 + 1)
theorem addC_18 (c : NF) (kd sh mk : Nat) : addC c kd sh mk 18 = c 18 + 1 := nu_s _ _ _
theorem addC_lo (c : NF) (kd sh mk : Nat) {j : Nat} (h : j < 4) : addC c kd sh mk j = c j := by
  unfold addC
  rw [nu_n _ _ (by omega), nu_n _ _ (by omega), nu_n _ _ (by omega), nu_n _ _ (by omega), nu_n _ _ (by omega)]
theorem addC_wf {c : NF} {kd sh mk : Nat} (h : wfc c) (hn : c 18 < 7) (h1 : kd < 6) (h2 : sh < 10) (h3 : mk < 10) : wfc (addC c kd sh mk) := by
  obtain ⟨a1, a2, a3, a4⟩ := h
  refine ⟨by rw [addC_18]; omega, by rw [addC_lo _ _ _ _ (by omega)]; exact a2, ?_, fun i hi => ?_⟩
  · rw [addC_lo _ _ _ _ (by omega), addC_18, Nat.pow_succ]
    omega
  · obtain ⟨b1, b2, b3, b4⟩ := a4 i hi
    unfold addC
    have e4 : 4 + i ≠ 18 := by omega
    have e11 : 11 + i ≠ 18 := by omega
    have e19 : 19 + i ≠ 18 := by omega
    have e26 : 26 + i ≠ 18 := by omega
    rw [nu_n _ _ e4, nu_n _ _ e11, nu_n _ _ e19, nu_n _ _ e26]
    by_cases e : i = c 18
    · subst e
      refine ⟨?_, ?_, ?_, ?_⟩
      · rw [nu_n _ _ (by omega), nu_n _ _ (by omega), nu_s]; exact h2
      · rw [nu_n _ _ (by omega), nu_s]; exact h2
      · rw [nu_n _ _ (by omega), nu_n _ _ (by omega), nu_n _ _ (by omega), nu_s]; exact h1
      · rw [nu_s]; exact h3
    · rw [nu_n _ _ (by omega), nu_n _ _ (by omega), nu_n _ _ (by omega), nu_n _ _ (by omega), nu_n _ _ (by omega), nu_n _ _ (by omega), nu_n _ _ (by omega), nu_n _ _ (by omega), nu_n _ _ (by omega), nu_n _ _ (by omega), nu_n _ _ (by omega), nu_n _ _ (by omega), nu_n _ _ (by omega), nu_n _ _ (by omega), nu_n _ _ (by omega), nu_n _ _ (by omega)]
      exact ⟨b1, b2, b3, b4⟩
def rdL (n : Nat) (f : Nat → Int32) : Nat → Nat → NF → Option Nat × NF
  | 0, at_, c => (some at_, c)
  | m + 1, at_, c => if at_ < n then (match kdV (f at_) with
      | none => (some at_, c)
      | some kd => if c 18 = 7 then (some at_, c) else if ¬ (at_ + 1 < n ∧ isFig 0 (f (at_ + 1)) = true) then (some (at_ + 1), c) else if ¬ (at_ + 2 < n ∧ isFig 0 (f (at_ + 2)) = true) then (some (at_ + 2), c) else rdL n f m (skS n f (at_ + 3)) (addC c kd (figV (f (at_ + 1))) (figV (f (at_ + 2)))))
    else (if c 18 < 2 then (some at_, c) else (none, c))
def rdT (n : Nat) (f : Nat → Int32) : Option Nat × NF := if skS n f 0 < n ∧ isFig 1 (f (skS n f 0)) = true then rdL n f 8 (skS n f (skS n f 0 + 1)) (nu (fun _ => 0) 0 (figV (f (skS n f 0)))) else (some (skS n f 0), fun _ => 0)
theorem wfc_0 {p : Nat} (h : p ≤ 9) : wfc (nu (fun _ => 0) 0 p) := by
  refine ⟨by rw [nu_n _ _ (by omega)]; omega, by rw [nu_s]; exact h, ?_, fun i hi => ?_⟩
  · rw [nu_n _ _ (by omega), nu_n _ _ (by omega)]; decide
  · rw [nu_n _ _ (by omega), nu_n _ _ (by omega), nu_n _ _ (by omega), nu_n _ _ (by omega)]; omega
theorem rdL_wf (n : Nat) (f : Nat → Int32) : ∀ (m at_ : Nat) (c : NF), wfc c → wfc (rdL n f m at_ c).2
  | 0, _, _, h => h
  | m + 1, at_, c, h => by
    unfold rdL
    split
    · split
      · exact h
      · rename_i kd hk
        split
        · exact h
        · split
          · exact h
          · split
            · exact h
            · rename_i h7 h1 h2
              have g1 := (Decidable.not_not.mp h1).2
              have g2 := (Decidable.not_not.mp h2).2
              exact rdL_wf n f m _ _ (addC_wf h (by have := h.1; omega) (kdV_lt hk) (isFig_v (by omega) g1).2.1 (isFig_v (by omega) g2).2.1)
    · split <;> exact h
theorem rdT_wf (n : Nat) (f : Nat → Int32) : wfc (rdT n f).2 := by
  unfold rdT
  split
  · rename_i h
    exact rdL_wf _ _ _ _ _ (wfc_0 (by have := (isFig_v (by omega) h.2).2.1; omega))
  · have := wfc_0 (p := 0) (by omega)
    exact ⟨(by decide : 0 ≤ 7), (by decide : 0 ≤ 9), (by decide : 0 < 2 ^ 0), fun i hi => ⟨(by decide : 0 < 10), (by decide : 0 < 10), (by decide : 0 < 6), (by decide : 0 < 10)⟩⟩
-- digest over a row
def dgM (f : Nat → Int32) : Nat → Int64 → Int64
  | 0, h => h
  | n + 1, h => lN 31 * dgM f n h + (f n).toInt64
-- the class's rows and texts
def isR (a : Nat) : Prop := (am_in a ∧ am_in (a + 1)) ∧ shp a = (11, 0, [a + 1, 0]) ∧ shp (a + 1) = (0, 40, [])
def isT (a : Nat) : Prop := (am_in a ∧ am_in (a + 1)) ∧ shp a = (13, 0, [a + 1, 0]) ∧ shp (a + 1) = (1, 60, [])
def XR (K : Nat) (μ : am_M) (a : Nat) (o : RV) : Prop := match o with
  | none => μ.1 a 1 = -1
  | some (n, f) => μ.1 a 1 = nI n ∧ n ≤ K ∧ ∀ i, i < n → μ.1 (a + 1) i = f i
def szR (o : RV) : Int32 := match o with
  | none => -1
  | some (n, _) => nI n
theorem XR.sz {K : Nat} {μ : am_M} {a : Nat} {o : RV} (h : XR K μ a o) : μ.1 a 1 = szR o := by
  cases o with
  | none => exact h
  | some x => exact h.1
theorem XR.kept {K : Nat} {μ μ' : am_M} {a : Nat} {o : RV} (h : XR K μ a o) (h0 : μ'.1 a = μ.1 a) (h1 : μ'.1 (a + 1) = μ.1 (a + 1)) : XR K μ' a o := by
  cases o with
  | none => exact (congrFun h0 1).trans h
  | some x => exact ⟨(congrFun h0 1).trans h.1, h.2.1, fun i hi => (congrFun h1 i).trans (h.2.2 i hi)⟩
def noneR (o : RV) : Bool := match o with
  | none => true
  | some _ => false
theorem szR_none {K : Nat} {μ : am_M} {a : Nat} {o : RV} (h : XR K μ a o) (hK : K < 1000) : szR o = -1 ↔ noneR o = true := by
  cases o with
  | none => simp [szR, noneR]
  | some x =>
    simp only [szR, noneR]
    refine ⟨fun q => ?_, fun q => by cases q⟩
    have := h.2.1
    have e : (nI x.1).toInt = (-1 : Int32).toInt := by rw [q]
    rw [nI_toInt (by omega)] at e
    have : (-1 : Int32).toInt = -1 := rfl
    omega
