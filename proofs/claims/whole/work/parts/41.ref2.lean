-- ===== the reference's state =====
def RX (K : Nat) (μ : am_M) (a b r : Nat) (o : RV) : Prop := match o with
  | none => μ.1 a r = -1
  | some (n, f) => μ.1 a r = nI n ∧ n ≤ K ∧ ∀ i, i < n → μ.1 b (K * r + i) = f i
def PR (μ : am_M) (a o : Nat) (c : NF) (l : List Nat) : Prop := ∀ n, n < l.length → ∀ k, k < 18 → μ.1 a (o + (18 * n + k)) = nI (repM (l.take n) c k)
def MK (μ : am_M) (σ : SG) (k : Nat) : Prop := μ.1 112 k = szK (sK σ k) ∧ ∀ l, sK σ k = some l → (∀ j, j < 33 → μ.1 110 (33 * k + j) = nI (repM l (sS σ) j)) ∧ PR μ 111 (720 * k) (sS σ) l
def MI (μ : am_M) (σ : SG) : Prop := (∀ r, r < 6 → RX 40 μ 100 101 r (sR σ r)) ∧ (∀ t, t < 4 → RX 60 μ 103 104 t (sT σ t)) ∧ MR μ 105 (nowM σ) ∧ μ.1 99 10 = nI (sL σ).length ∧ PR μ 109 0 (sS σ) (sL σ) ∧ (∀ k, k < 3 → MK μ σ k) ∧ μ.1 99 14 = sA σ ∧ μ.1 99 17 = sF σ ∧ (∀ f, f < 6 → μ.1 113 f = sC σ f) ∧ μ.2 99 15 = sU σ ∧ μ.2 99 16 = sW σ
theorem RX.kept {K : Nat} {μ μ' : am_M} {a b r : Nat} {o : RV} (h : RX K μ a b r o) (h0 : μ'.1 a = μ.1 a) (h1 : μ'.1 b = μ.1 b) : RX K μ' a b r o := by
  cases o with
  | none => exact (congrFun h0 r).trans h
  | some x => exact ⟨(congrFun h0 r).trans h.1, h.2.1, fun i hi => (congrFun h1 _).trans (h.2.2 i hi)⟩
theorem RX.sz {K : Nat} {μ : am_M} {a b r : Nat} {o : RV} (h : RX K μ a b r o) : μ.1 a r = szR o := by
  cases o with
  | none => exact h
  | some x => exact h.1
theorem PR.kept {μ μ' : am_M} {a o : Nat} {c : NF} {l : List Nat} (h : PR μ a o c l) (e : μ'.1 a = μ.1 a) : PR μ' a o c l := fun n hn k hk => (congrFun e _).trans (h n hn k hk)
theorem MK.kept {μ μ' : am_M} {σ σ' : SG} {k : Nat} (h : MK μ σ k) (e0 : μ'.1 112 = μ.1 112) (e1 : μ'.1 110 = μ.1 110) (e2 : μ'.1 111 = μ.1 111) (e3 : sS σ' = sS σ) (e4 : sK σ' = sK σ) : MK μ' σ' k := by
  refine ⟨(congrFun e0 k).trans (by rw [e4]; exact h.1), fun l hl => ?_⟩
  rw [e4] at hl
  rw [e3]
  exact ⟨fun j hj => (congrFun e1 _).trans ((h.2 l hl).1 j hj), (h.2 l hl).2.kept e2⟩
def scrM (b : Nat) : Prop := b = 102 ∨ b = 106 ∨ b = 107 ∨ b = 108 ∨ (114 ≤ b ∧ b < 117)
def fq (μ μ' : am_M) : Prop := ∀ b, b < 99 → μ'.1 b = μ.1 b ∧ μ'.2 b = μ.2 b
theorem fq.rf (μ : am_M) : fq μ μ := fun _ _ => ⟨rfl, rfl⟩
theorem fq.trans {μ μ1 μ2 : am_M} (h1 : fq μ μ1) (h2 : fq μ1 μ2) : fq μ μ2 := fun b hb => ⟨(h2 b hb).1.trans (h1 b hb).1, (h2 b hb).2.trans (h1 b hb).2⟩
theorem sP.fq {P : Nat → Prop} {μ μ1 : am_M} (h : sP P μ μ1) (hl : ∀ b, P b → 99 ≤ b) : fq μ μ1 := fun b hb => h b (fun q => by have := hl b q; omega)
theorem scrM_ge {b : Nat} (h : scrM b) : 99 ≤ b := by unfold scrM at h; omega
theorem MI.scr {μ μ' : am_M} {σ : SG} (h : MI μ σ) (hs : sP scrM μ μ') : MI μ' σ := by
  obtain ⟨h1, h2, h3, h4, h5, h6, h7, h8, h9, h10, h11⟩ := h
  have hn : ∀ b, ¬ (b = 102 ∨ b = 106 ∨ b = 107 ∨ b = 108 ∨ (114 ≤ b ∧ b < 117)) → μ'.1 b = μ.1 b ∧ μ'.2 b = μ.2 b := hs
  have n99 := hn 99 (by omega)
  refine ⟨fun r hr => (h1 r hr).kept (hn _ (by omega)).1 (hn _ (by omega)).1, fun t ht => (h2 t ht).kept (hn _ (by omega)).1 (hn _ (by omega)).1, h3.kept (hn _ (by omega)).1, by rw [n99.1]; exact h4, h5.kept (hn _ (by omega)).1, fun k hk => (h6 k hk).kept (hn _ (by omega)).1 (hn _ (by omega)).1 (hn _ (by omega)).1 rfl rfl, by rw [n99.1]; exact h7, by rw [n99.1]; exact h8, fun f hf => by rw [(hn 113 (by omega)).1]; exact h9 f hf, by rw [n99.2]; exact h10, by rw [n99.2]; exact h11⟩
theorem MI.row {μ μ' : am_M} {σ : SG} {r : Nat} {o : RV} (h : MI μ σ) (hs : sP (fun b => b = 100 ∨ b = 101) μ μ') (hr : r < 6) (hx : RX 40 μ' 100 101 r o) (hz : ∀ q, q < 6 → q ≠ r → μ'.1 100 q = μ.1 100 q ∧ ∀ i, i < 40 → μ'.1 101 (40 * q + i) = μ.1 101 (40 * q + i)) : MI μ' (gR σ r o) := by
  obtain ⟨h1, h2, h3, h4, h5, h6, h7, h8, h9, h10, h11⟩ := h
  have hn : ∀ b, ¬ (b = 100 ∨ b = 101) → μ'.1 b = μ.1 b ∧ μ'.2 b = μ.2 b := hs
  have n99 := hn 99 (by omega)
  refine ⟨fun q hq => ?_, fun t ht => (h2 t ht).kept (hn _ (by omega)).1 (hn _ (by omega)).1, h3.kept (hn _ (by omega)).1, by rw [n99.1]; exact h4, h5.kept (hn _ (by omega)).1, fun k hk => (h6 k hk).kept (hn _ (by omega)).1 (hn _ (by omega)).1 (hn _ (by omega)).1 rfl rfl, by rw [n99.1]; exact h7, by rw [n99.1]; exact h8, fun f hf => by rw [(hn 113 (by omega)).1]; exact h9 f hf, by rw [n99.2]; exact h10, by rw [n99.2]; exact h11⟩
  by_cases e : q = r
  · subst e
    show RX 40 μ' _ _ _ (if q = q then o else _)
    rw [if_pos rfl]; exact hx
  · show RX 40 μ' _ _ _ (if q = r then o else sR σ q)
    rw [if_neg e]
    obtain ⟨z1, z2⟩ := hz q hq e
    have := h1 q hq
    cases eo : sR σ q with
    | none => rw [eo] at this; exact z1.trans this
    | some w =>
      rw [eo] at this
      exact ⟨z1.trans this.1, this.2.1, fun i hi => (z2 i (Nat.lt_of_lt_of_le hi this.2.1)).trans (this.2.2 i hi)⟩
theorem MI.text {μ μ' : am_M} {σ : SG} {r : Nat} {o : RV} (h : MI μ σ) (hs : sP (fun b => b = 103 ∨ b = 104) μ μ') (hr : r < 4) (hx : RX 60 μ' 103 104 r o) (hz : ∀ q, q < 4 → q ≠ r → μ'.1 103 q = μ.1 103 q ∧ ∀ i, i < 60 → μ'.1 104 (60 * q + i) = μ.1 104 (60 * q + i)) : MI μ' (gT σ r o) := by
  obtain ⟨h1, h2, h3, h4, h5, h6, h7, h8, h9, h10, h11⟩ := h
  have hn : ∀ b, ¬ (b = 103 ∨ b = 104) → μ'.1 b = μ.1 b ∧ μ'.2 b = μ.2 b := hs
  have n99 := hn 99 (by omega)
  refine ⟨fun t ht => (h1 t ht).kept (hn _ (by omega)).1 (hn _ (by omega)).1, fun q hq => ?_, h3.kept (hn _ (by omega)).1, by rw [n99.1]; exact h4, h5.kept (hn _ (by omega)).1, fun k hk => (h6 k hk).kept (hn _ (by omega)).1 (hn _ (by omega)).1 (hn _ (by omega)).1 rfl rfl, by rw [n99.1]; exact h7, by rw [n99.1]; exact h8, fun f hf => by rw [(hn 113 (by omega)).1]; exact h9 f hf, by rw [n99.2]; exact h10, by rw [n99.2]; exact h11⟩
  by_cases e : q = r
  · subst e
    show RX 60 μ' _ _ _ (if q = q then o else _)
    rw [if_pos rfl]; exact hx
  · show RX 60 μ' _ _ _ (if q = r then o else sT σ q)
    rw [if_neg e]
    obtain ⟨z1, z2⟩ := hz q hq e
    have := h2 q hq
    cases eo : sT σ q with
    | none => rw [eo] at this; exact z1.trans this
    | some w =>
      rw [eo] at this
      exact ⟨z1.trans this.1, this.2.1, fun i hi => (z2 i (Nat.lt_of_lt_of_le hi this.2.1)).trans (this.2.2 i hi)⟩
theorem MI.two {μ : am_M} {σ : SG} (h : MI μ σ) (f : Nat → Int32) (g : Nat → Int32) {σ' : SG} (e1 : σ'.1 = σ.1) (e2 : σ'.2.1 = σ.2.1) (e3 : sS σ' = sS σ) (e4 : sL σ' = sL σ) (e5 : sK σ' = sK σ) (e6 : sU σ' = sU σ) (e7 : sW σ' = sW σ) (hd : f 10 = μ.1 99 10) (ha : f 14 = sA σ') (hf : f 17 = sF σ') (hc : ∀ k, k < 6 → g k = sC σ' k) : MI (sI (sI μ 99 f) 113 g) σ' := by
  obtain ⟨h1, h2, h3, h4, h5, h6, h7, h8, h9, h10, h11⟩ := h
  have hn : ∀ b, b ≠ 99 → b ≠ 113 → (sI (sI μ 99 f) 113 g).1 b = μ.1 b := fun b b1 b2 => by rw [sI_ne _ _ b2, sI_ne _ _ b1]
  have n99 : (sI (sI μ 99 f) 113 g).1 99 = f := by rw [sI_ne _ _ (by omega), sI_same]
  have en : nowM σ' = nowM σ := by unfold nowM; rw [e3, e4]
  refine ⟨fun r hr => by rw [show sR σ' = sR σ from e1]; exact (h1 r hr).kept (hn _ (by omega) (by omega)) (hn _ (by omega) (by omega)), fun t ht => by rw [show sT σ' = sT σ from e2]; exact (h2 t ht).kept (hn _ (by omega) (by omega)) (hn _ (by omega) (by omega)), by rw [en]; exact h3.kept (hn _ (by omega) (by omega)), by rw [n99, e4, hd]; exact h4, by rw [e3, e4]; exact h5.kept (hn _ (by omega) (by omega)), fun k hk => (h6 k hk).kept (hn _ (by omega) (by omega)) (hn _ (by omega) (by omega)) (hn _ (by omega) (by omega)) e3 e5, by rw [n99]; exact ha, by rw [n99]; exact hf, fun k hk => by rw [sI_same]; exact hc k hk, by rw [e6]; exact h10, by rw [e7]; exact h11⟩
theorem sI_id (μ : am_M) (a b : Nat) (f : Nat → Int32) (h : b ≠ a) : sI (sI μ a f) b (μ.1 b) = sI μ a f := by
  unfold sI
  refine Prod.ext (funext fun q => ?_) rfl
  by_cases e2 : q = b
  · subst e2; simp [h]
  · simp [e2]
theorem MI.asked {μ : am_M} {σ : SG} (h : MI μ σ) (v : Int32) : MI (sI μ 99 (upd (μ.1 99) 14 v)) (gA σ v) := by
  have h8 := h.2.2.2.2.2.2.2.1
  have h9 := h.2.2.2.2.2.2.2.2.1
  have key := h.two (upd (μ.1 99) 14 v) (μ.1 113) (σ' := gA σ v) rfl rfl rfl rfl rfl rfl rfl (by rw [pk_un (by omega)]) (by rw [pk_us]; rfl) (by rw [pk_un (by omega)]; exact h8) h9
  rw [sI_id _ _ _ _ (by omega)] at key
  exact key
abbrev PM (μ : am_M) (p : Int32 × SG) : Option Value → am_M → Prop := qi (fun v μ' => v = p.1 ∧ MI μ' p.2 ∧ fq μ μ')
theorem pm_e {μ μ' : am_M} {v : Int32} {p q : Int32 × SG} (e : p = q) (h1 : v = q.1) (h2 : MI μ' q.2) (h3 : fq μ μ') : v = p.1 ∧ MI μ' p.2 ∧ fq μ μ' := by subst e; exact ⟨h1, h2, h3⟩
theorem pm_same {μ : am_M} {σ : SG} {v : Int32} (h : MI μ σ) {p : Int32 × SG} (e : p = (v, σ)) : v = p.1 ∧ MI μ p.2 ∧ fq μ μ := by subst e; exact ⟨rfl, h, fq.rf μ⟩
theorem in_ix (x : Int32) {n : Nat} (hn : n + 1 < 2 ^ 31) : decide (nI 0 ≤ x ∧ x ≤ nI n) = (ixV x (n + 1)).isSome := by
  by_cases h : x < 0
  · have h1 : ¬ (0 : Int32) ≤ x := Int32.not_le.mpr h
    rw [decide_eq_false (fun q => h1 q.1), ixV_not (fun q => h1 q.1)]
    rfl
  · obtain ⟨j, hj, rfl⟩ := nI_of h
    by_cases e : j < n + 1
    · rw [ixV_nI e hn, decide_eq_true ⟨nI_pos' hj, (nI_leI hj (by omega)).mpr (by omega)⟩]; rfl
    · rw [ixV_not (fun q => e ((nI_ltI hj hn).mp q.2)), decide_eq_false (fun q => e (Nat.lt_succ_of_le ((nI_leI hj (by omega)).mp q.2)))]; rfl
theorem in_ix1 (x : Int32) {n : Nat} (hn : n < 2 ^ 31) : decide (nI 0 ≤ x ∧ x ≤ nI n - nI 1) = (ixV x n).isSome := by
  cases n with
  | zero =>
    have e : nI 0 - nI 1 = -1 := by decide
    rw [ixV_not (fun q => absurd q.2 (Int32.not_lt.mpr q.1)), decide_eq_false (fun q => by
      rw [e] at q
      exact absurd (Int32.le_trans q.1 q.2) (by decide))]
    rfl
  | succ n => rw [pk_sub (by omega), Nat.add_sub_cancel]; exact in_ix x hn
theorem tw_for {X : Nat × (Nat → Int32)} {d : Nat} {K : am_K} {Q : Option Value → am_M → Prop} {pc : Nat} {n : Nat} {Lf : Nat → List Value} {P : Nat → am_M → Prop} (step : ∀ k μ, k < n → P k μ → (∀ μ', P (k + 1) μ' → tw X d K Q pc (Lf (k + 1)) [] μ') → tw X d K Q pc (Lf k) [] μ) (fin : ∀ μ, P n μ → tw X d K Q pc (Lf n) [] μ) (k : Nat) (μ : am_M) (hk : k ≤ n) (hP : P k μ) : tw X d K Q pc (Lf k) [] μ := by
  obtain ⟨m, hm⟩ : ∃ m, k + m = n := ⟨n - k, by omega⟩
  induction m generalizing k μ with
  | zero =>
    have e : k = n := by omega
    subst e
    exact fin μ hP
  | succ m ih => exact step k μ (by omega) hP (fun μ' h' => ih (k + 1) μ' (by omega) h' (by omega))
section M2
variable {X : Nat × (Nat → Int32)} {d : Nat} {μ : am_M} {σ : SG} {r x y z w : Int32} {i j n : Nat} {f : Nat → Int32}
theorem r_finds {k : Nat} (hk : k < 6) (h : MI μ σ) : cp X (d + 1) kX8_finds [.ref 99, .int (nI k)] μ (PM μ (-3, gF σ k)) := by
  refine cp_of ok_X8_finds (L := [.ref 99, .int (nI k)]) rfl ?_
  refine tr_aload_n dX8_finds_0 rfl ?_
  refine tr_iload_n dX8_finds_1 rfl ?_
  refine tr_putI dX8_finds_2 fp_RX8_66 (by first | assumption | decide) (by first | assumption | rfl) rfl ?_
  refine tr_aload_n dX8_finds_5 rfl ?_
  refine tr_getR dX8_finds_6 fg_RX8_54 (by first | assumption | decide) (by first | assumption | rfl) rfl (by omega) ?_
  refine tr_iload_n dX8_finds_9 rfl ?_
  refine tr_dup2 dX8_finds_10 rfl rfl ?_
  -- at 11: .iaload
  refine tr_iald (n := 6) (cs := []) dX8_finds_11 (by decide) rfl rfl hk (by omega) rfl ?_
  refine tr_iconst (v := nI 1) dX8_finds_12 (by decide) ?_
  first | with_reducible refine tr_iaddN dX8_finds_13 ?_ | refine tr_iadd dX8_finds_13 ?_
  -- at 14: .iastore
  refine tr_iast (n := 6) (cs := []) dX8_finds_14 (by decide) rfl rfl hk (by omega) ?_
  refine tr_bipush (v := -3) dX8_finds_15 (by decide) ?_
  -- at 17: .ireturn
  have h7 := h.2.2.2.2.2.2.1
  have h9 := h.2.2.2.2.2.2.2.2.1
  refine tr_iret dX8_finds_17 (by first | exact trivial | rfl) ⟨rfl, ?_, ?_⟩
  · refine h.two _ _ rfl rfl rfl rfl rfl rfl rfl ?_ ?_ ?_ (fun q hq => ?_)
    · rw [pk_un (by omega)]
    · rw [pk_un (by omega)]; exact h7
    · rw [pk_us]; rfl
    · show upd _ k _ q = upd (sC σ) k (sC σ k + 1) q
      by_cases e : q = k
      · subst e
        rw [pk_us, pk_us, sI_ne _ _ (by omega), h9 q hq]
        rfl
      · rw [pk_un e, pk_un e, sI_ne _ _ (by omega)]
        exact h9 q hq
  · exact (((sP.rf (fun b => b = 99 ∨ b = 113) μ).put _ (Or.inl rfl)).put _ (Or.inr rfl)).fq (fun b hb => by omega)
theorem r_tells (h : MI μ σ) : cp X (d + 1) kX8_tells [.ref 99, .int x] μ (PM μ (1, gA σ x)) := by
  refine cp_of ok_X8_tells (L := [.ref 99, .int x]) rfl ?_
  refine tr_aload_n dX8_tells_0 rfl ?_
  refine tr_iload_n dX8_tells_1 rfl ?_
  refine tr_putI dX8_tells_2 fp_RX8_70 (by first | assumption | decide) (by first | assumption | rfl) rfl ?_
  refine tr_iconst (v := nI 1) dX8_tells_5 (by decide) ?_
  -- at 6: .ireturn
  refine tr_iret dX8_tells_6 (by first | exact trivial | rfl) ⟨rfl, h.asked _, (((sP.rf (fun b => b = 99) μ).put _ rfl)).fq (fun b hb => by omega)⟩
theorem r_isRow : cp X (d + 2) kX8_isRow [.int r] μ (qi (fun v μ' => μ' = μ ∧ v = nI (bN (ixV r 6).isSome))) := by
  refine cp_of ok_X8_isRow (L := [.int r]) rfl ?_
  refine tr_iload_n dX8_isRow_0 rfl ?_
  refine tr_iconst (v := nI 0) dX8_isRow_1 (by decide) ?_
  refine tr_iconst (v := nI 5) dX8_isRow_2 (by decide) ?_
  -- at 3: .invokestatic 73
  refine tr_Si (As := [_, _, _]) dX8_isRow_3 fm_RX8_73 rfl rfl (Nat.le_of_ble_eq_true rfl) (r_in (d := d)) (fun v μ1 ⟨e1, e2⟩ => ?_)
  subst μ1; subst v
  rw [in_ix r (by omega)]
  exact tr_retb rfl dX8_isRow_6 ⟨rfl, rfl⟩
theorem r_isText : cp X (d + 2) kX8_isText [.int r] μ (qi (fun v μ' => μ' = μ ∧ v = nI (bN (ixV r 4).isSome))) := by
  refine cp_of ok_X8_isText (L := [.int r]) rfl ?_
  refine tr_iload_n dX8_isText_0 rfl ?_
  refine tr_iconst (v := nI 0) dX8_isText_1 (by decide) ?_
  refine tr_iconst (v := nI 3) dX8_isText_2 (by decide) ?_
  -- at 3: .invokestatic 73
  refine tr_Si (As := [_, _, _]) dX8_isText_3 fm_RX8_73 rfl rfl (Nat.le_of_ble_eq_true rfl) (r_in (d := d)) (fun v μ1 ⟨e1, e2⟩ => ?_)
  subst μ1; subst v
  rw [in_ix r (by omega)]
  exact tr_retb rfl dX8_isText_6 ⟨rfl, rfl⟩
theorem r_isDrum (h : MI μ σ) (h7 : nowM σ 18 ≤ 7) : cp X (d + 2) kX8_isDrum [.ref 99, .int r] μ (qi (fun v μ' => μ' = μ ∧ v = nI (bN (ixV r (nowM σ 18)).isSome))) := by
  have k18 : μ.1 105 18 = nI (nowM σ 18) := h.2.2.1 18 (by omega)
  refine cp_of ok_X8_isDrum (L := [.ref 99, .int r]) rfl ?_
  refine tr_iload_n dX8_isDrum_0 rfl ?_
  refine tr_iconst (v := nI 0) dX8_isDrum_1 (by decide) ?_
  refine tr_aload_n dX8_isDrum_2 rfl ?_
  refine tr_getR dX8_isDrum_3 fg_RX8_26 (by first | assumption | decide) (by first | assumption | rfl) rfl (by omega) ?_
  refine tr_bipush (v := nI 18) dX8_isDrum_6 (by decide) ?_
  refine tr_iald dX8_isDrum_8 (by first | assumption | decide) (by first | assumption | rfl) rfl (by omega) (by omega) (by first | assumption | rfl) ?_
  refine tr_iconst (v := nI 1) dX8_isDrum_9 (by decide) ?_
  -- at 10: .isub
  refine tr_isub dX8_isDrum_10 ?_
  refine tr_Si (As := [_, _, _]) dX8_isDrum_11 fm_RX8_73 rfl rfl (Nat.le_of_ble_eq_true rfl) (r_in (d := d)) (fun v μ1 ⟨e1, e2⟩ => ?_)
  subst μ1; subst v
  rw [in_ix1 r (by omega)]
  exact tr_retb rfl dX8_isDrum_14 ⟨rfl, rfl⟩
theorem r_anew (h : MI μ σ) (hj : j < 6) (hn : n ≤ 40) : cp X (d + 1) kX8_anew [.ref 99, .int (nI j), .int (nI n)] μ (qv (fun μ' => MI μ' (gR σ j (some (n, fun _ => 0))) ∧ sP (fun b => b = 100 ∨ b = 101) μ μ' ∧ ∀ i, i < 40 → μ'.1 101 (40 * j + i) = nI 0)) := by
  refine cp_of ok_X8_anew (L := [.ref 99, .int (nI j), .int (nI n), .float 0]) rfl ?_
  refine tr_aload_n dX8_anew_0 rfl ?_
  refine tr_getR dX8_anew_1 fg_RX8_7 (by first | assumption | decide) (by first | assumption | rfl) rfl (by omega) ?_
  refine tr_iload_n dX8_anew_4 rfl ?_
  refine tr_iload_n dX8_anew_5 rfl ?_
  refine tr_iast dX8_anew_6 (by first | assumption | decide) (by first | assumption | rfl) rfl (by omega) (by omega) ?_
  refine tr_iconst (v := nI 0) dX8_anew_7 (by decide) ?_
  refine tr_istore_n_3 dX8_anew_8 (by decide) rfl ?_
  -- at 9: .iload_n 3
  refine tw_for (n := 40) (Lf := fun k => [.ref 99, .int (nI j), .int (nI n), .int (nI k)]) (P := fun k μ1 => sP (fun b => b = 100 ∨ b = 101) μ μ1 ∧ μ1.1 100 = upd (μ.1 100) j (nI n) ∧ (∀ i, i < k → μ1.1 101 (40 * j + i) = nI 0) ∧ ∀ q, q < 6 → q ≠ j → ∀ i, i < 40 → μ1.1 101 (40 * q + i) = μ.1 101 (40 * q + i)) (fun k μ1 hk hP ih => ?_) (fun μ1 hP => ?_) 0 _ (by omega) ?_
  · obtain ⟨p1, p2, p3, p4⟩ := hP
    refine tr_iload_n dX8_anew_9 rfl ?_
    refine tr_bipush (v := nI 40) dX8_anew_10 (by decide) ?_
    -- at 12: .if_icmp .ge 21
    refine tr_geN (tgt := 33) dX8_anew_12 (by decide) (by omega) (by omega) (fun h1 => ?_) (fun h1 => ?_)
    · omega
    · refine tr_aload_n dX8_anew_15 rfl ?_
      refine tr_getR dX8_anew_16 fg_RX8_13 (by first | assumption | decide) (by first | assumption | rfl) rfl (by omega) ?_
      refine tr_bipush (v := nI 40) dX8_anew_19 (by decide) ?_
      refine tr_iload_n dX8_anew_21 rfl ?_
      first | with_reducible refine tr_imulN dX8_anew_22 ?_ | refine tr_imul dX8_anew_22 ?_
      refine tr_iload_n dX8_anew_23 rfl ?_
      first | with_reducible refine tr_iaddN dX8_anew_24 ?_ | refine tr_iadd dX8_anew_24 ?_
      refine tr_iconst (v := nI 0) dX8_anew_25 (by decide) ?_
      refine tr_iast dX8_anew_26 (by first | assumption | decide) (by first | assumption | rfl) rfl (by omega) (by omega) ?_
      -- at 27: .iinc 3 1
      first | with_reducible refine tr_iincN_3 dX8_anew_27 (by decide) rfl ?_ | refine tr_iinc_3 dX8_anew_27 (by decide) rfl ?_
      refine tr_goto (tgt := 9) dX8_anew_30 (by decide) ?_
      -- at 9: .iload_n 3
      refine ih _ ⟨p1.put _ (Or.inr rfl), by rw [sI_ne _ _ (by omega)]; exact p2, fun i hi => ?_, fun q hq hqj i hi => ?_⟩
      · rw [sI_same]
        by_cases e : i = k
        · subst e; rw [pk_us]
        · rw [pk_un (by omega)]; exact p3 i (by omega)
      · rw [sI_same, pk_un (by omega)]; exact p4 q hq hqj i hi
  · obtain ⟨p1, p2, p3, p4⟩ := hP
    refine tr_iload_n dX8_anew_9 rfl ?_
    refine tr_bipush (v := nI 40) dX8_anew_10 (by decide) ?_
    -- at 12: .if_icmp .ge 21
    refine tr_geN (tgt := 33) dX8_anew_12 (by decide) (by omega) (by omega) (fun h1 => ?_) (fun h1 => ?_)
    · refine tr_vret dX8_anew_33 (by first | exact trivial | rfl) ⟨h.row p1 hj ⟨by rw [p2, pk_us], hn, fun i hi => p3 i (by omega)⟩ (fun q hq hqj => ⟨by rw [p2, pk_un hqj], p4 q hq hqj⟩), p1, p3⟩
    · omega
  · exact ⟨(sP.rf _ μ).put _ (Or.inl rfl), by rw [sI_same], fun i hi => by omega, fun q hq hqj i hi => by rw [sI_ne _ _ (by omega)]⟩
theorem r_row (h : MI μ σ) : cp X (d + 3) kX8_row [.ref 99, .int r, .int x] μ (PM μ (S_row σ r x)) := by
  refine cp_of ok_X8_row (L := [.ref 99, .int r, .int x]) rfl ?_
  refine tr_iload_n dX8_row_0 rfl ?_
  -- at 1: .invokestatic 77
  refine tr_Si (As := [_]) dX8_row_1 fm_RX8_77 rfl rfl (Nat.le_of_ble_eq_true rfl) (r_isRow) (fun v μ1 ⟨e1, e2⟩ => ?_)
  subst μ1; subst v
  cases hr : ixV r 6 with
  | none =>
    refine tr_ifb0 (tgt := 13) dX8_row_4 (by decide) (fun h1 => ?_) (fun h1 => ?_)
    · refine tr_iconst (v := -1) dX8_row_13 (by decide) ?_
      exact tr_iret dX8_row_14 (by first | exact trivial | rfl) (pm_same h (by rw [S_row, hr]))
    · cases h1
  | some j =>
    obtain ⟨rfl, hj⟩ := ixV_some (by omega) hr
    refine tr_ifb0 (tgt := 13) dX8_row_4 (by decide) (fun h1 => ?_) (fun h1 => ?_)
    · cases h1
    · refine tr_iload_n dX8_row_7 rfl ?_
      refine tr_bipush (v := nI 40) dX8_row_8 (by decide) ?_
      -- at 10: .if_icmp .le 5
      refine tr_icmp_le (tgt := 15) dX8_row_10 (by decide) (fun h2 => ?_) (fun h2 => ?_)
      · refine tr_iload_n dX8_row_15 rfl ?_
        -- at 16: .ifCond .ge 9
        refine tr_if_ge (tgt := 25) dX8_row_16 (by decide) (fun h3 => ?_) (fun h3 => ?_)
        · obtain ⟨q, hq, rfl⟩ := nI_of (Int32.not_lt.mpr h3)
          have hq2 := (nI_leI hq (by omega)).mp h2
          refine tr_aload_n dX8_row_25 rfl ?_
          refine tr_iload_n dX8_row_26 rfl ?_
          refine tr_iload_n dX8_row_27 rfl ?_
          -- at 28: .invokevirtual 85
          refine tr_Vv (As := [_, _]) dX8_row_28 fm_RX8_85 rfl rfl (by first | assumption | decide) (by first | assumption | rfl) (Nat.le_of_ble_eq_true rfl) (r_anew h hj hq2) (fun μ1 ⟨e1, e2, e3⟩ => ?_)
          refine tr_iload_n dX8_row_31 rfl ?_
          -- at 32: .ireturn
          refine tr_iret dX8_row_32 (by first | exact trivial | rfl) (pm_e (q := (nI q, gR σ j (some (q, fun _ => 0)))) (by
            rw [S_row, hr]
            dsimp only
            rw [if_neg (Int32.not_lt.mpr h2), if_neg (nI_pos hq), nI_clamp hq]) rfl e1 (e2.fq (fun b hb => by omega)))
        · refine tr_aload_n dX8_row_19 rfl ?_
          refine tr_iconst (v := nI 5) dX8_row_20 (by decide) ?_
          refine tr_Vi (As := [_]) dX8_row_21 fm_RX8_81 rfl rfl (by first | assumption | decide) (by first | assumption | rfl) (Nat.le_of_ble_eq_true rfl) (r_finds (k := 5) (by omega) h) (fun v μ1 ⟨e1, e2, e3⟩ => ?_)
          exact tr_iret dX8_row_24 (by first | exact trivial | rfl) (pm_e (by rw [S_row, hr]; dsimp only; rw [if_neg (Int32.not_lt.mpr h2), if_pos (Int32.not_le.mp h3)]) e1 e2 e3)
      · refine tr_iconst (v := -1) dX8_row_13 (by decide) ?_
        exact tr_iret dX8_row_14 (by first | exact trivial | rfl) (pm_same h (by rw [S_row, hr]; dsimp only; rw [if_pos (Int32.not_le.mp h2)]))
theorem r_at (h : MI μ σ) : cp X (d + 3) kX8_at [.ref 99, .int r, .int x] μ (PM μ (S_at σ r x)) := by
  refine cp_of ok_X8_at (L := [.ref 99, .int r, .int x]) rfl ?_
  refine tr_iload_n dX8_at_0 rfl ?_
  -- at 1: .invokestatic 77
  refine tr_Si (As := [_]) dX8_at_1 fm_RX8_77 rfl rfl (Nat.le_of_ble_eq_true rfl) (r_isRow) (fun v μ1 ⟨e1, e2⟩ => ?_)
  subst μ1; subst v
  cases hr : ixV r 6 with
  | none =>
    refine tr_ifb1 (tgt := 9) dX8_at_4 (by decide) (fun h1 => ?_) (fun h1 => ?_)
    · cases h1
    · refine tr_iconst (v := -1) dX8_at_7 (by decide) ?_
      exact tr_iret dX8_at_8 (by first | exact trivial | rfl) (pm_same h (by rw [S_at, hr]))
  | some j =>
    obtain ⟨rfl, hj⟩ := ixV_some (by omega) hr
    have hX := h.1 j hj
    have r0 := hX.sz
    refine tr_ifb1 (tgt := 9) dX8_at_4 (by decide) (fun h1 => ?_) (fun h1 => ?_)
    · refine tr_aload_n dX8_at_9 rfl ?_
      refine tr_getR dX8_at_10 fg_RX8_7 (by first | assumption | decide) (by first | assumption | rfl) rfl (by omega) ?_
      refine tr_iload_n dX8_at_13 rfl ?_
      refine tr_iald dX8_at_14 (by first | assumption | decide) (by first | assumption | rfl) rfl (by omega) (by omega) (by first | assumption | rfl) ?_
      -- at 15: .ifCond .ge 9
      cases ho : sR σ j with
      | none =>
        refine tr_if_ge (tgt := 24) dX8_at_15 (by decide) (fun h2 => ?_) (fun h2 => ?_)
        · exact absurd h2 (by decide)
        · refine tr_aload_n dX8_at_18 rfl ?_
          refine tr_iconst (v := nI 1) dX8_at_19 (by decide) ?_
          refine tr_Vi (As := [_]) dX8_at_20 fm_RX8_81 rfl rfl (by first | assumption | decide) (by first | assumption | rfl) (Nat.le_of_ble_eq_true rfl) (r_finds (k := 1) (by omega) h) (fun v μ1 ⟨e1, e2, e3⟩ => ?_)
          exact tr_iret dX8_at_23 (by first | exact trivial | rfl) (pm_e (by simp only [S_at, hr, ho]) e1 e2 e3)
      | some w =>
        obtain ⟨n, f⟩ := w
        rw [ho] at hX
        have r1 := hX.1
        have r2 := hX.2.1
        refine tr_if_ge (tgt := 24) dX8_at_15 (by decide) (fun h2 => ?_) (fun h2 => ?_)
        · refine tr_iload_n dX8_at_24 rfl ?_
          refine tr_iconst (v := nI 0) dX8_at_25 (by decide) ?_
          refine tr_aload_n dX8_at_26 rfl ?_
          refine tr_getR dX8_at_27 fg_RX8_7 (by first | assumption | decide) (by first | assumption | rfl) rfl (by omega) ?_
          refine tr_iload_n dX8_at_30 rfl ?_
          refine tr_iald dX8_at_31 (by first | assumption | decide) (by first | assumption | rfl) rfl (by omega) (by omega) (by first | assumption | rfl) ?_
          refine tr_iconst (v := nI 1) dX8_at_32 (by decide) ?_
          -- at 33: .isub
          refine tr_isub dX8_at_33 ?_
          refine tr_Si (As := [_, _, _]) dX8_at_34 fm_RX8_73 rfl rfl (Nat.le_of_ble_eq_true rfl) (r_in) (fun v μ1 ⟨e1, e2⟩ => ?_)
          subst μ1; subst v
          rw [in_ix1 x (by omega)]
          cases hx : ixV x n with
          | none =>
            refine tr_ifb0 (tgt := 58) dX8_at_37 (by decide) (fun h3 => ?_) (fun h3 => ?_)
            · refine tr_aload_n dX8_at_58 rfl ?_
              refine tr_iconst (v := nI 2) dX8_at_59 (by decide) ?_
              refine tr_Vi (As := [_]) dX8_at_60 fm_RX8_81 rfl rfl (by first | assumption | decide) (by first | assumption | rfl) (Nat.le_of_ble_eq_true rfl) (r_finds (k := 2) (by omega) h) (fun v μ1 ⟨e1, e2, e3⟩ => ?_)
              exact tr_iret dX8_at_63 (by first | exact trivial | rfl) (pm_e (by simp only [S_at, hr, ho, hx]) e1 e2 e3)
            · cases h3
          | some q =>
            obtain ⟨rfl, hq⟩ := ixV_some (by omega) hx
            have r3 := hX.2.2 q hq
            refine tr_ifb0 (tgt := 58) dX8_at_37 (by decide) (fun h3 => ?_) (fun h3 => ?_)
            · cases h3
            · refine tr_aload_n dX8_at_40 rfl ?_
              refine tr_aload_n dX8_at_41 rfl ?_
              refine tr_getR dX8_at_42 fg_RX8_13 (by first | assumption | decide) (by first | assumption | rfl) rfl (by omega) ?_
              refine tr_bipush (v := nI 40) dX8_at_45 (by decide) ?_
              refine tr_iload_n dX8_at_47 rfl ?_
              first | with_reducible refine tr_imulN dX8_at_48 ?_ | refine tr_imul dX8_at_48 ?_
              refine tr_iload_n dX8_at_49 rfl ?_
              first | with_reducible refine tr_iaddN dX8_at_50 ?_ | refine tr_iadd dX8_at_50 ?_
              refine tr_iald dX8_at_51 (by first | assumption | decide) (by first | assumption | rfl) rfl (by omega) (by omega) (by first | assumption | rfl) ?_
              -- at 52: .invokevirtual 89
              refine tr_Vi (As := [_]) dX8_at_52 fm_RX8_89 rfl rfl (by first | assumption | decide) (by first | assumption | rfl) (Nat.le_of_ble_eq_true rfl) (r_tells h) (fun v μ1 ⟨e1, e2, e3⟩ => ?_)
              refine tr_goto (tgt := 63) dX8_at_55 (by decide) ?_
              -- at 63: .ireturn
              refine tr_iret dX8_at_63 (by first | exact trivial | rfl) (pm_e (by simp only [S_at, hr, ho, hx]) e1 e2 e3)
        · exact absurd (nI_pos' (show n < 2 ^ 31 by omega)) h2
    · cases h1
end M2
