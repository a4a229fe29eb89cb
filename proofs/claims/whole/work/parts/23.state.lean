-- ===== the state that class and reference share =====
def repM (l : List Nat) (c : NF) : NF := l.foldl (fun c dd => doM dd c) c
abbrev SG : Type := (Nat → RV) × (Nat → RV) × NF × List Nat × (Nat → Option (List Nat)) × Int32 × Int64 × Int64 × Int32 × (Nat → Int32)
abbrev sR (σ : SG) : Nat → RV := σ.1
abbrev sT (σ : SG) : Nat → RV := σ.2.1
abbrev sS (σ : SG) : NF := σ.2.2.1
abbrev sL (σ : SG) : List Nat := σ.2.2.2.1
abbrev sK (σ : SG) : Nat → Option (List Nat) := σ.2.2.2.2.1
abbrev sA (σ : SG) : Int32 := σ.2.2.2.2.2.1
abbrev sU (σ : SG) : Int64 := σ.2.2.2.2.2.2.1
abbrev sW (σ : SG) : Int64 := σ.2.2.2.2.2.2.2.1
abbrev sF (σ : SG) : Int32 := σ.2.2.2.2.2.2.2.2.1
abbrev sC (σ : SG) : Nat → Int32 := σ.2.2.2.2.2.2.2.2.2
def nowM (σ : SG) : NF := repM (sL σ) (sS σ)
def gR (σ : SG) (r : Nat) (o : RV) : SG := (fun q => if q = r then o else sR σ q, σ.2)
def gT (σ : SG) (t : Nat) (o : RV) : SG := (σ.1, fun q => if q = t then o else sT σ q, σ.2.2)
def gS (σ : SG) (c : NF) : SG := (σ.1, σ.2.1, c, [], fun _ => none, σ.2.2.2.2.2)
def gL (σ : SG) (l : List Nat) : SG := (σ.1, σ.2.1, σ.2.2.1, l, σ.2.2.2.2)
def gK (σ : SG) (k : Nat) (o : Option (List Nat)) : SG := (σ.1, σ.2.1, σ.2.2.1, σ.2.2.2.1, fun q => if q = k then o else sK σ q, σ.2.2.2.2.2)
def gA (σ : SG) (v : Int32) : SG := (σ.1, σ.2.1, σ.2.2.1, σ.2.2.2.1, σ.2.2.2.2.1, v, σ.2.2.2.2.2.2)
def gU (σ : SG) (u w : Int64) : SG := (σ.1, σ.2.1, σ.2.2.1, σ.2.2.2.1, σ.2.2.2.2.1, sA σ, u, w, σ.2.2.2.2.2.2.2.2)
def gF (σ : SG) (k : Nat) : SG := (σ.1, σ.2.1, σ.2.2.1, σ.2.2.2.1, σ.2.2.2.2.1, sA σ, sU σ, sW σ, nI k, upd (sC σ) k (sC σ k + 1))
def KR (μ : am_M) (a : Nat) (o : Option (List Nat)) : Prop := match o with
  | none => μ.1 a 1 = -1
  | some l => DR μ a l
theorem DR.kept {μ μ' : am_M} {a : Nat} {l : List Nat} (h : DR μ a l) (h0 : μ'.1 a = μ.1 a) (h1 : μ'.1 (a + 1) = μ.1 (a + 1)) : DR μ' a l := ⟨h.1, (congrFun h0 1).trans h.2.1, fun i hi => (congrFun h1 i).trans (h.2.2 i hi)⟩
theorem KR.kept {μ μ' : am_M} {a : Nat} {o : Option (List Nat)} (h : KR μ a o) (h0 : μ'.1 a = μ.1 a) (h1 : μ'.1 (a + 1) = μ.1 (a + 1)) : KR μ' a o := by
  cases o with
  | none => exact (congrFun h0 1).trans h
  | some l => exact DR.kept h h0 h1
theorem BR.keep {μ μ' : am_M} {a : Nat} {c : NF} (h : BR μ a c) (hs : ∀ b, a ≤ b → b < a + 5 → μ'.1 b = μ.1 b) : BR μ' a c := by
  unfold BR
  rw [hs a (by omega) (by omega), hs (a + 1) (by omega) (by omega), hs (a + 2) (by omega) (by omega), hs (a + 3) (by omega) (by omega), hs (a + 4) (by omega) (by omega)]
  exact h
def CI (μ : am_M) (σ : SG) : Prop := (∀ r, r < 6 → XR 40 μ (73 + 2 * r) (sR σ r)) ∧ (∀ t, t < 4 → XR 60 μ (85 + 2 * t) (sT σ t)) ∧ BR μ 5 (sS σ) ∧ BR μ 10 (nowM σ) ∧ DR μ 25 (sL σ) ∧ (∀ k, k < 3 → KR μ (93 + 2 * k) (sK σ k)) ∧ μ.1 2 15 = sA σ ∧ μ.1 2 14 = sF σ ∧ (∀ f, f < 6 → μ.1 72 f = sC σ f) ∧ μ.2 71 0 = sU σ ∧ μ.2 71 1 = sW σ
def dOKs (n : Nat) (l : List Nat) : Prop := l.length ≤ 40 ∧ ∀ dd ∈ l, dOK n dd
def WI (σ : SG) : Prop := wfc (sS σ) ∧ sS σ 1 = 0 ∧ dOKs (sS σ 18) (sL σ) ∧ (∀ k l, sK σ k = some l → dOKs (sS σ 18) l) ∧ (sS σ 18 = 0 → sL σ = [] ∧ ∀ k, sK σ k = none)
theorem repM_wf : ∀ (l : List Nat) (c : NF), wfc c → (∀ dd ∈ l, dOK (c 18) dd) → wfc (repM l c) ∧ repM l c 18 = c 18
  | [], c, h, _ => ⟨h, rfl⟩
  | dd :: l, c, h, hd => by
    have h1 := hd dd List.mem_cons_self
    have e := doM_18 h h1
    obtain ⟨q1, q2⟩ := repM_wf l (doM dd c) (doM_wf h h1) (fun x hx => by rw [e]; exact hd x (List.mem_cons_of_mem _ hx))
    exact ⟨q1, q2.trans e⟩
theorem WI.now {σ : SG} (h : WI σ) : wfc (nowM σ) := (repM_wf _ _ h.1 h.2.2.1.2).1
theorem WI.n18 {σ : SG} (h : WI σ) : nowM σ 18 = sS σ 18 := (repM_wf _ _ h.1 h.2.2.1.2).2
theorem repM_app (l : List Nat) (dd : Nat) (c : NF) : repM (l ++ [dd]) c = doM dd (repM l c) := by simp [repM]
-- what the class does not touch; its scratch
def fr (μ μ' : am_M) : Prop := ∀ b, 99 ≤ b → μ'.1 b = μ.1 b ∧ μ'.2 b = μ.2 b
def scr (b : Nat) : Prop := (15 ≤ b ∧ b < 25) ∨ (28 ≤ b ∧ b < 71)
def sP (P : Nat → Prop) (μ μ' : am_M) : Prop := ∀ b, ¬ P b → μ'.1 b = μ.1 b ∧ μ'.2 b = μ.2 b
theorem sP.rf (P : Nat → Prop) (μ : am_M) : sP P μ μ := fun _ _ => ⟨rfl, rfl⟩
theorem sP.trans {P : Nat → Prop} {μ μ1 μ2 : am_M} (h1 : sP P μ μ1) (h2 : sP P μ1 μ2) : sP P μ μ2 := fun b hb => ⟨(h2 b hb).1.trans (h1 b hb).1, (h2 b hb).2.trans (h1 b hb).2⟩
theorem sP.of {P : Nat → Prop} {μ μ1 : am_M} {l : List Nat} (h : same μ μ1 l) (hl : ∀ b, b ∈ l → P b) : sP P μ μ1 := fun b hb => ⟨h.1 b (fun q => hb (hl b q)), congrFun h.2 b⟩
theorem sP.wide {P P' : Nat → Prop} {μ μ1 : am_M} (h : sP P μ μ1) (hl : ∀ b, P b → P' b) : sP P' μ μ1 := fun b hb => h b (fun q => hb (hl b q))
theorem sP.fr {P : Nat → Prop} {μ μ1 : am_M} (h : sP P μ μ1) (hl : ∀ b, P b → b < 99) : fr μ μ1 := fun b hb => h b (fun q => by have := hl b q; omega)
theorem fr.trans {μ μ1 μ2 : am_M} (h1 : fr μ μ1) (h2 : fr μ1 μ2) : fr μ μ2 := fun b hb => ⟨(h2 b hb).1.trans (h1 b hb).1, (h2 b hb).2.trans (h1 b hb).2⟩
theorem fr.rf (μ : am_M) : fr μ μ := fun _ _ => ⟨rfl, rfl⟩
theorem sP.put {P : Nat → Prop} {μ μ1 : am_M} (h : sP P μ μ1) {a : Nat} (f : Nat → Int32) (ha : P a) : sP P μ (sI μ1 a f) := fun b hb => by
  have hne : b ≠ a := fun q => hb (by rw [q]; exact ha)
  exact ⟨(sI_ne _ _ hne).trans (h b hb).1, (h b hb).2⟩
theorem sP.putJ {P : Nat → Prop} {μ μ1 : am_M} (h : sP P μ μ1) {a : Nat} (f : Nat → Int64) (ha : P a) : sP P μ (sJ μ1 a f) := fun b hb => by
  have hne : b ≠ a := fun q => hb (by rw [q]; exact ha)
  exact ⟨(h b hb).1, (sJ_ne _ _ hne).trans (h b hb).2⟩
theorem CI.scr {μ μ' : am_M} {σ : SG} (h : CI μ σ) (hs : sP scr μ μ') : CI μ' σ := by
  obtain ⟨h1, h2, h3, h4, h5, h6, h7, h8, h9, h10, h11⟩ := h
  have hn : ∀ b, ¬ ((15 ≤ b ∧ b < 25) ∨ (28 ≤ b ∧ b < 71)) → μ'.1 b = μ.1 b ∧ μ'.2 b = μ.2 b := hs
  refine ⟨fun r hr => (h1 r hr).kept (hn _ (by omega)).1 (hn _ (by omega)).1, fun t ht => (h2 t ht).kept (hn _ (by omega)).1 (hn _ (by omega)).1, h3.keep (fun b b1 b2 => (hn b (by omega)).1), h4.keep (fun b b1 b2 => (hn b (by omega)).1), h5.kept (hn _ (by omega)).1 (hn _ (by omega)).1, fun k hk => (h6 k hk).kept (hn _ (by omega)).1 (hn _ (by omega)).1, ?_, ?_, fun f hf => ?_, ?_, ?_⟩
  · rw [(hn 2 (by omega)).1]; exact h7
  · rw [(hn 2 (by omega)).1]; exact h8
  · rw [(hn 72 (by omega)).1]; exact h9 f hf
  · rw [(hn 71 (by omega)).2]; exact h10
  · rw [(hn 71 (by omega)).2]; exact h11
theorem CI.row {μ μ' : am_M} {σ : SG} {r : Nat} {o : RV} (h : CI μ σ) (hs : sP (fun b => b = 73 + 2 * r ∨ b = 74 + 2 * r) μ μ') (hr : r < 6) (hx : XR 40 μ' (73 + 2 * r) o) : CI μ' (gR σ r o) := by
  obtain ⟨h1, h2, h3, h4, h5, h6, h7, h8, h9, h10, h11⟩ := h
  have hn : ∀ b, ¬ (b = 73 + 2 * r ∨ b = 74 + 2 * r) → μ'.1 b = μ.1 b ∧ μ'.2 b = μ.2 b := hs
  refine ⟨fun q hq => ?_, fun t ht => (h2 t ht).kept (hn _ (by omega)).1 (hn _ (by omega)).1, h3.keep (fun b b1 b2 => (hn b (by omega)).1), h4.keep (fun b b1 b2 => (hn b (by omega)).1), h5.kept (hn _ (by omega)).1 (hn _ (by omega)).1, fun k hk => (h6 k hk).kept (hn _ (by omega)).1 (hn _ (by omega)).1, ?_, ?_, fun f hf => ?_, ?_, ?_⟩
  · by_cases e : q = r
    · subst e
      show XR 40 μ' _ (if q = q then o else _)
      rw [if_pos rfl]; exact hx
    · show XR 40 μ' _ (if q = r then o else sR σ q)
      rw [if_neg e]
      exact (h1 q hq).kept (hn _ (by omega)).1 (hn _ (by omega)).1
  · rw [(hn 2 (by omega)).1]; exact h7
  · rw [(hn 2 (by omega)).1]; exact h8
  · rw [(hn 72 (by omega)).1]; exact h9 f hf
  · rw [(hn 71 (by omega)).2]; exact h10
  · rw [(hn 71 (by omega)).2]; exact h11
theorem CI.text {μ μ' : am_M} {σ : SG} {t : Nat} {o : RV} (h : CI μ σ) (hs : sP (fun b => b = 85 + 2 * t ∨ b = 86 + 2 * t) μ μ') (ht : t < 4) (hx : XR 60 μ' (85 + 2 * t) o) : CI μ' (gT σ t o) := by
  obtain ⟨h1, h2, h3, h4, h5, h6, h7, h8, h9, h10, h11⟩ := h
  have hn : ∀ b, ¬ (b = 85 + 2 * t ∨ b = 86 + 2 * t) → μ'.1 b = μ.1 b ∧ μ'.2 b = μ.2 b := hs
  refine ⟨fun r hr => (h1 r hr).kept (hn _ (by omega)).1 (hn _ (by omega)).1, fun q hq => ?_, h3.keep (fun b b1 b2 => (hn b (by omega)).1), h4.keep (fun b b1 b2 => (hn b (by omega)).1), h5.kept (hn _ (by omega)).1 (hn _ (by omega)).1, fun k hk => (h6 k hk).kept (hn _ (by omega)).1 (hn _ (by omega)).1, ?_, ?_, fun f hf => ?_, ?_, ?_⟩
  · by_cases e : q = t
    · subst e
      show XR 60 μ' _ (if q = q then o else _)
      rw [if_pos rfl]; exact hx
    · show XR 60 μ' _ (if q = t then o else sT σ q)
      rw [if_neg e]
      exact (h2 q hq).kept (hn _ (by omega)).1 (hn _ (by omega)).1
  · rw [(hn 2 (by omega)).1]; exact h7
  · rw [(hn 2 (by omega)).1]; exact h8
  · rw [(hn 72 (by omega)).1]; exact h9 f hf
  · rw [(hn 71 (by omega)).2]; exact h10
  · rw [(hn 71 (by omega)).2]; exact h11
theorem CI.two {μ : am_M} {σ : SG} (h : CI μ σ) (f : Nat → Int32) (g : Nat → Int32) {σ' : SG} (e1 : σ'.1 = σ.1) (e2 : σ'.2.1 = σ.2.1) (e3 : sS σ' = sS σ) (e4 : sL σ' = sL σ) (e5 : sK σ' = sK σ) (e6 : sU σ' = sU σ) (e7 : sW σ' = sW σ) (ha : f 15 = sA σ') (hf : f 14 = sF σ') (hc : ∀ k, k < 6 → g k = sC σ' k) : CI (sI (sI μ 2 f) 72 g) σ' := by
  obtain ⟨h1, h2, h3, h4, h5, h6, h7, h8, h9, h10, h11⟩ := h
  have hn : ∀ b, b ≠ 2 → b ≠ 72 → (sI (sI μ 2 f) 72 g).1 b = μ.1 b := fun b b1 b2 => by rw [sI_ne _ _ b2, sI_ne _ _ b1]
  have en : nowM σ' = nowM σ := by unfold nowM; rw [e3, e4]
  refine ⟨fun r hr => by rw [show sR σ' = sR σ from e1]; exact (h1 r hr).kept (hn _ (by omega) (by omega)) (hn _ (by omega) (by omega)), fun t ht => by rw [show sT σ' = sT σ from e2]; exact (h2 t ht).kept (hn _ (by omega) (by omega)) (hn _ (by omega) (by omega)), by rw [e3]; exact h3.keep (fun b b1 b2 => hn b (by omega) (by omega)), by rw [en]; exact h4.keep (fun b b1 b2 => hn b (by omega) (by omega)), by rw [e4]; exact h5.kept (hn _ (by omega) (by omega)) (hn _ (by omega) (by omega)), fun k hk => by rw [e5]; exact (h6 k hk).kept (hn _ (by omega) (by omega)) (hn _ (by omega) (by omega)), ?_, ?_, fun k hk => ?_, by rw [e6]; exact h10, by rw [e7]; exact h11⟩
  · rw [sI_ne _ _ (by omega), sI_same]; exact ha
  · rw [sI_ne _ _ (by omega), sI_same]; exact hf
  · rw [sI_same]; exact hc k hk
theorem CI.asked {μ : am_M} {σ : SG} (h : CI μ σ) (v : Int32) : CI (sI μ 2 (upd (μ.1 2) 15 v)) (gA σ v) := by
  have h8 := h.2.2.2.2.2.2.2.1
  have h9 := h.2.2.2.2.2.2.2.2.1
  have key := h.two (upd (μ.1 2) 15 v) (μ.1 72) (σ' := gA σ v) rfl rfl rfl rfl rfl rfl rfl (by rw [pk_us]; rfl) (by rw [pk_un (by omega)]; exact h8) h9
  have e : sI (sI μ 2 (upd (μ.1 2) 15 v)) 72 (μ.1 72) = sI μ 2 (upd (μ.1 2) 15 v) := by
    unfold sI
    refine Prod.ext (funext fun b => ?_) rfl
    by_cases e2 : b = 72
    · subst e2; rfl
    · simp [e2]
  rw [e] at key
  exact key
-- indices
def ixV (x : Int32) (n : Nat) : Option Nat := if 0 ≤ x ∧ x < nI n then some x.toNatClampNeg else none
theorem ixV_some {x : Int32} {n j : Nat} (hn : n < 2 ^ 31) (h : ixV x n = some j) : x = nI j ∧ j < n := by
  unfold ixV at h
  split at h
  · rename_i q
    cases h
    obtain ⟨k, hk, rfl⟩ := nI_of (Int32.not_lt.mpr q.1)
    have := (nI_ltI hk hn).mp q.2
    rw [nI_clamp hk]
    exact ⟨rfl, this⟩
  · cases h
theorem ixV_none {x : Int32} {n : Nat} (h : ixV x n = none) : ¬ (0 ≤ x ∧ x < nI n) := by
  unfold ixV at h
  split at h
  · cases h
  · assumption
theorem ixV_nI {j n : Nat} (hj : j < n) (hn : n < 2 ^ 31) : ixV (nI j) n = some j := by
  unfold ixV
  rw [if_pos ⟨nI_pos' (by omega), (nI_ltI (by omega) hn).mpr hj⟩, nI_clamp (by omega)]
theorem ixV_not {x : Int32} {n : Nat} (h : ¬ (0 ≤ x ∧ x < nI n)) : ixV x n = none := if_neg h
theorem isR_r {r : Nat} (h : r < 6) : isR (73 + 2 * r) := by
  have : r = 0 ∨ r = 1 ∨ r = 2 ∨ r = 3 ∨ r = 4 ∨ r = 5 := by omega
  rcases this with rfl | rfl | rfl | rfl | rfl | rfl <;> exact ⟨by decide, rfl, rfl⟩
theorem isT_t {r : Nat} (h : r < 4) : isT (85 + 2 * r) := by
  have : r = 0 ∨ r = 1 ∨ r = 2 ∨ r = 3 := by omega
  rcases this with rfl | rfl | rfl | rfl <;> exact ⟨by decide, rfl, rfl⟩
theorem isD_k {r : Nat} (h : r < 3) : isD (93 + 2 * r) := by
  have : r = 0 ∨ r = 1 ∨ r = 2 := by omega
  rcases this with rfl | rfl | rfl <;> exact ⟨by decide, rfl, rfl⟩
theorem isB_5 : isB 5 := ⟨by decide, rfl, rfl, rfl, rfl, rfl⟩
theorem isB_10 : isB 10 := ⟨by decide, rfl, rfl, rfl, rfl, rfl⟩
theorem isB_15 : isB 15 := ⟨by decide, rfl, rfl, rfl, rfl, rfl⟩
theorem isB_20 : isB 20 := ⟨by decide, rfl, rfl, rfl, rfl, rfl⟩
theorem isB_m {r : Nat} (h : r < 6) : isB (32 + 5 * r) := by
  have : r = 0 ∨ r = 1 ∨ r = 2 ∨ r = 3 ∨ r = 4 ∨ r = 5 := by omega
  rcases this with rfl | rfl | rfl | rfl | rfl | rfl <;> exact ⟨by decide, rfl, rfl, rfl, rfl, rfl⟩
theorem isD_25 : isD 25 := ⟨by decide, rfl, rfl⟩
theorem row_at {r : Nat} (h : r < 6) : ([73, 75, 77, 79, 81, 83] : List Nat)[r]? = some (73 + 2 * r) := by
  have : r = 0 ∨ r = 1 ∨ r = 2 ∨ r = 3 ∨ r = 4 ∨ r = 5 := by omega
  rcases this with rfl | rfl | rfl | rfl | rfl | rfl <;> rfl
theorem text_at {r : Nat} (h : r < 4) : ([85, 87, 89, 91] : List Nat)[r]? = some (85 + 2 * r) := by
  have : r = 0 ∨ r = 1 ∨ r = 2 ∨ r = 3 := by omega
  rcases this with rfl | rfl | rfl | rfl <;> rfl
theorem kept_at {r : Nat} (h : r < 3) : ([93, 95, 97] : List Nat)[r]? = some (93 + 2 * r) := by
  have : r = 0 ∨ r = 1 ∨ r = 2 := by omega
  rcases this with rfl | rfl | rfl <;> rfl
theorem behind_at {r : Nat} (h : r < 6) : ([32, 37, 42, 47, 52, 57] : List Nat)[r]? = some (32 + 5 * r) := by
  have : r = 0 ∨ r = 1 ∨ r = 2 ∨ r = 3 ∨ r = 4 ∨ r = 5 := by omega
  rcases this with rfl | rfl | rfl | rfl | rfl | rfl <;> rfl
theorem looks_at {r : Nat} (h : r < 6) : ([64, 65, 66, 67, 68, 69] : List Nat)[r]? = some (64 + r) := by
  have : r = 0 ∨ r = 1 ∨ r = 2 ∨ r = 3 ∨ r = 4 ∨ r = 5 := by omega
  rcases this with rfl | rfl | rfl | rfl | rfl | rfl <;> rfl
