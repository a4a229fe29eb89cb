-- ===== order: the search with pruning against all codes =====
abbrev OST : Type := Option (List Nat × Nat × NF)
def stp (g : Nat → Nat) (st : OST) (q : Nat) : OST := match st with
  | none => none
  | some (ps, t, c) => if q ∈ ps then none else if tM 61 (aimM (c 18) (g q) c) ≤ 60 then some (ps ++ [q], t + tM 61 (aimM (c 18) (g q) c), goI (tM 61 (aimM (c 18) (g q) c)) (aimM (c 18) (g q) c)) else none
def evl (N : Nat) (g : Nat → Nat) : Nat → OST → Nat → OST
  | 0, st, _ => st
  | m + 1, st, code => evl N g m (stp g st (code / N ^ m % N)) code
theorem evl_none (N : Nat) (g : Nat → Nat) : ∀ m code, evl N g m none code = none
  | 0, _ => rfl
  | m + 1, code => by rw [evl]; exact evl_none N g m code
theorem evl_ge (N : Nat) (g : Nat → Nat) : ∀ (m : Nat) (ps : List Nat) (t : Nat) (c : NF) (code : Nat) (r : List Nat × Nat × NF), evl N g m (some (ps, t, c)) code = some r → t ≤ r.2.1
  | 0, ps, t, c, code, r, h => by cases h; exact Nat.le_refl _
  | m + 1, ps, t, c, code, r, h => by
    rw [evl] at h
    unfold stp at h
    dsimp only at h
    split at h
    · rw [evl_none] at h; cases h
    · split at h
      · have := evl_ge N g m _ _ _ _ r h
        omega
      · rw [evl_none] at h; cases h
abbrev AR : Type := Nat × Option Nat
def upR (r : OST) (code : Nat) (a : AR) : AR := match r with
  | none => a
  | some x => if x.2.1 < a.1 then (x.2.1, some code) else a
def fB (N : Nat) (g : Nat → Nat) (m : Nat) (st : OST) (lo : Nat) (a : AR) : Nat → AR
  | 0 => a
  | k + 1 => upR (evl N g m st (lo + k)) (lo + k) (fB N g m st lo a k)
theorem fB_add (N : Nat) (g : Nat → Nat) (m : Nat) (st : OST) (lo : Nat) (a : AR) (k1 : Nat) : ∀ k2, fB N g m st lo a (k1 + k2) = fB N g m st (lo + k1) (fB N g m st lo a k1) k2
  | 0 => rfl
  | k2 + 1 => by rw [show k1 + (k2 + 1) = (k1 + k2) + 1 from rfl, fB, fB, fB_add N g m st lo a k1 k2, Nat.add_assoc]
theorem fB_congr (N : Nat) (g : Nat → Nat) {m m' : Nat} {st st' : OST} (lo : Nat) (a : AR) : ∀ K, (∀ k, k < K → evl N g m st (lo + k) = evl N g m' st' (lo + k)) → fB N g m st lo a K = fB N g m' st' lo a K
  | 0, _ => rfl
  | K + 1, h => by rw [fB, fB, fB_congr N g lo a K (fun k hk => h k (by omega)), h K (by omega)]
theorem fB_same (N : Nat) (g : Nat → Nat) {m : Nat} {st : OST} (lo : Nat) (a : AR) (h : ∀ code r, evl N g m st code = some r → a.1 ≤ r.2.1) : ∀ K, fB N g m st lo a K = a
  | 0 => rfl
  | K + 1 => by
    cases e : evl N g m st (lo + K) with
    | none => rw [fB, fB_same N g lo a h K, e]; rfl
    | some x =>
      have := h _ x e
      rw [fB, fB_same N g lo a h K, e]
      show (if x.2.1 < a.1 then _ else a) = a
      rw [if_neg (by omega)]
def dgs (N : Nat) (l : List Nat) : Nat := l.foldl (fun b q => b * N + q) 0
theorem dgs_app (N : Nat) (l : List Nat) (q : Nat) : dgs N (l ++ [q]) = dgs N l * N + q := by simp [dgs]
def Rl (N : Nat) (acc : Nat × List Nat) (a : AR) : Prop := (acc = (301, []) ∧ a = (9999, none)) ∨ (acc.1 ≤ 300 ∧ a = (acc.1, some (dgs N acc.2)) ∧ acc.2.length = N ∧ ∀ q ∈ acc.2, q < N)
theorem ord_block {N : Nat} {g : Nat → Nat} (hN : N ≤ 5) (hN0 : 0 < N) : ∀ (m : Nat) (ps : List Nat) (t : Nat) (c : NF) (acc : Nat × List Nat) (a : AR), ps.length + m = N → (∀ q ∈ ps, q < N) → t ≤ 60 * ps.length → t < acc.1 → Rl N acc a → Rl N (dfs N g m ps t c acc) (fB N g m (some (ps, t, c)) (dgs N ps * N ^ m) a (N ^ m))
  | 0, ps, t, c, acc, a, hl, hq, ht, hta, hR => by
    have hlen : ps.length = N := hl
    rw [dfs, Nat.pow_zero, Nat.mul_one]
    show Rl N (t, ps) (upR (some (ps, t, c)) (dgs N ps + 0) a)
    rw [upR]
    dsimp only
    have h1 : t < a.1 := by
      rcases hR with ⟨e1, e2⟩ | ⟨e1, e2, _⟩
      · rw [e2]; show t < 9999; rw [e1] at hta; have : t < 301 := hta; omega
      · rw [e2]; exact hta
    rw [if_pos h1]
    exact Or.inr ⟨by show t ≤ 300; rw [hlen] at ht; omega, rfl, hlen, hq⟩
  | m + 1, ps, t, c, acc, a, hl, hq, ht, hta, hR => by
    rw [dfs, Nat.pow_succ, Nat.mul_comm (N ^ m) N]
    have hpos : 0 < N ^ m := Nat.pow_pos hN0
    have key : ∀ k, k ≤ N → Rl N (foO N g (dfs N g m) ps t c acc k) (fB N g (m + 1) (some (ps, t, c)) (dgs N ps * (N * N ^ m)) a (k * N ^ m)) := by
      intro k
      induction k with
      | zero =>
        intro _
        rw [Nat.zero_mul]
        exact hR
      | succ k ih =>
        intro hk
        have hRk := ih (by omega)
        rw [Nat.add_mul, Nat.one_mul, fB_add, foO]
        generalize foO N g (dfs N g m) ps t c acc k = acc1 at *
        generalize fB N g (m + 1) (some (ps, t, c)) (dgs N ps * (N * N ^ m)) a (k * N ^ m) = a1 at *
        have elo : dgs N ps * (N * N ^ m) + k * N ^ m = (dgs N ps * N + k) * N ^ m := by rw [Nat.add_mul, Nat.mul_assoc]
        rw [elo]
        have hcode : ∀ i, i < N ^ m → ((dgs N ps * N + k) * N ^ m + i) / N ^ m % N = k := by
          intro i hi
          rw [Nat.mul_comm _ (N ^ m), Nat.mul_add_div hpos, Nat.div_eq_of_lt hi, Nat.add_zero, Nat.mul_comm, Nat.mul_add_mod, Nat.mod_eq_of_lt (by omega)]
        have econ : fB N g (m + 1) (some (ps, t, c)) ((dgs N ps * N + k) * N ^ m) a1 (N ^ m) = fB N g m (stp g (some (ps, t, c)) k) ((dgs N ps * N + k) * N ^ m) a1 (N ^ m) := fB_congr N g _ _ _ (fun i hi => by rw [evl, hcode i hi])
        rw [econ, stO]
        unfold stp
        dsimp only
        by_cases h1 : k ∈ ps
        · rw [if_pos h1, if_pos h1, fB_same N g _ _ (fun code r h => by rw [evl_none] at h; cases h)]
          exact hRk
        · rw [if_neg h1, if_neg h1]
          generalize tM 61 (aimM (c 18) (g k) c) = T
          by_cases h2 : T ≤ 60
          · rw [if_pos h2]
            have hlen : 60 * ps.length + 60 ≤ 300 := by omega
            by_cases h3 : t + T < acc1.1
            · rw [if_pos ⟨h2, h3⟩, ← dgs_app]
              exact ord_block hN hN0 m (ps ++ [k]) (t + T) _ acc1 a1 (by rw [List.length_append]; simp; omega) (fun q hq2 => by
                rcases List.mem_append.mp hq2 with hq2 | hq2
                · exact hq q hq2
                · rw [List.mem_singleton.mp hq2]; omega) (by rw [List.length_append]; simp; omega) h3 hRk
            · rw [if_neg (fun q => h3 q.2), fB_same N g _ _ (fun code r h => by
                have := evl_ge N g m _ _ _ _ r h
                rcases hRk with ⟨e1, e2⟩ | ⟨e1, e2, _⟩
                · rw [e1] at h3
                  have : ¬ t + T < 301 := h3
                  omega
                · rw [e2]
                  show acc1.1 ≤ _
                  omega)]
              exact hRk
          · rw [if_neg h2, if_neg (fun q => h2 q.1), fB_same N g _ _ (fun code r h => by rw [evl_none] at h; cases h)]
            exact hRk
    have := key N (Nat.le_refl N)
    exact this
theorem ord_all {σ : SG} {N : Nat} {f : Nat → Int32} (hN : N ≤ 5) (hN0 : 0 < N) : Rl N (ordM σ N f) (fB N (fun k => (f k).toNatClampNeg) N (some ([], 0, nowM σ)) 0 (9999, none) (N ^ N)) := by
  have := ord_block (g := fun k => (f k).toNatClampNeg) hN hN0 N [] 0 (nowM σ) (301, []) (9999, none) (by simp) (fun q hq => by cases hq) (Nat.zero_le _) (by decide) (Or.inl ⟨rfl, rfl⟩)
  rw [show dgs N [] * N ^ N = 0 from Nat.zero_mul _] at this
  exact this
theorem dgs_take {N : Nat} (l : List Nat) {k : Nat} (hk : k < l.length) : dgs N (l.take (k + 1)) = dgs N (l.take k) * N + l.getD k 0 := by
  rw [List.take_succ, List.getD_eq_getElem?_getD, List.getElem?_eq_getElem hk]
  exact dgs_app N _ _
theorem dgs_lt0 {N : Nat} : ∀ (l : List Nat) (b : Nat), (∀ q ∈ l, q < N) → l.foldl (fun b q => b * N + q) b < (b + 1) * N ^ l.length
  | [], b, _ => by simp
  | q :: l, b, h => by
    have h1 := dgs_lt0 l (b * N + q) (fun x hx => h x (List.mem_cons_of_mem _ hx))
    have h2 := h q List.mem_cons_self
    rw [List.foldl_cons, List.length_cons]
    refine Nat.lt_of_lt_of_le h1 ?_
    rw [Nat.pow_succ, Nat.mul_comm (N ^ l.length) N, ← Nat.mul_assoc]
    refine Nat.mul_le_mul_right _ ?_
    rw [Nat.add_mul]
    omega
theorem dgs_lt {N : Nat} (l : List Nat) (h : ∀ q ∈ l, q < N) : dgs N l < N ^ l.length := by
  have := dgs_lt0 l 0 h
  rw [Nat.zero_add, Nat.one_mul] at this
  exact this
theorem gR_gR (σ : SG) (r : Nat) (a b : RV) : gR (gR σ r a) r b = gR σ r b := by
  unfold gR
  refine Prod.ext (funext fun q => ?_) rfl
  dsimp only
  by_cases e : q = r
  · rw [if_pos e, if_pos e]
  · rw [if_neg e, if_neg e]; exact if_neg e
