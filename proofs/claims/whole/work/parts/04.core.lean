-- ===== THE ABSTRACT MACHINE: places, cells, heaps, locals =====
def am_pv (b lt B : Nat) : Nat → Nat
  | 0 => b
  | 1 => lt
  | k + 2 => B + k
def am_cv (f : Nat → Nat) : Value → Value
  | .ref k => .ref (f k)
  | v => v
abbrev am_C : Type := (Nat × vp_A) ⊕ (Nat × List Value)
abbrev am_H : Type := List am_C
def am_ty : Nat → FieldType
  | 0 => .int
  | 1 => .byte
  | 2 => .long
  | 3 => .object "FlapBoard$Row"
  | 4 => .object "FlapBoard$Text"
  | 5 => .object "FlapBoard$Deeds"
  | 6 => .object "FlapBoard$Board"
  | _ => .array .int
def am_x (f : Nat → Nat) (x : vp_A) : vp_A := match x with
  | (n, .inl g) => (n, .inl g)
  | (n, .inr (.inl g)) => (n, .inr (.inl g))
  | (n, .inr (.inr (.inl g))) => (n, .inr (.inr (.inl g)))
  | (n, .inr (.inr (.inr (.inl g)))) => (n, .inr (.inr (.inr (.inl g))))
  | (n, .inr (.inr (.inr (.inr g)))) => (n, .inr (.inr (.inr (.inr (fun j => (g j).map f)))))
def am_E (f : Nat → Nat) (cA : Nat → ClassId) : am_C → va_E
  | .inl (t, x) => .inl (cA t, am_x f x)
  | .inr (ci, fs) => .inr (ci, fs.map (am_cv f))
def am_ws (f : Nat → Nat) (cA : Nat → ClassId) : Nat → am_H → va_W
  | _, [] => []
  | B, c :: h => (B, am_E f cA c) :: am_ws f cA (B + 1) h
theorem am_ws_get (f : Nat → Nat) (cA : Nat → ClassId) : ∀ (h : am_H) (B k : Nat), (am_ws f cA B h)[k]? = (h[k]?).map (fun c => (B + k, am_E f cA c))
  | [], B, k => by simp [am_ws]
  | c :: h, B, 0 => by simp [am_ws]
  | c :: h, B, k + 1 => by
    show (am_ws f cA (B + 1) h)[k]? = _
    rw [am_ws_get f cA h (B + 1) k]
    simp [Nat.add_assoc, Nat.add_comm 1 k]
theorem am_ws_at {f : Nat → Nat} {cA : Nat → ClassId} {h : am_H} {B k : Nat} {c : am_C} (hk : h[k]? = some c) : (am_ws f cA B h)[k]? = some (B + k, am_E f cA c) := by
  rw [am_ws_get, hk]; rfl
theorem am_ws_set (f : Nat → Nat) (cA : Nat → ClassId) : ∀ (h : am_H) (B k : Nat) (c : am_C), (am_ws f cA B h).set k (B + k, am_E f cA c) = am_ws f cA B (h.set k c)
  | [], B, k, c => by simp [am_ws]
  | d :: h, B, 0, c => by simp [am_ws]
  | d :: h, B, k + 1, c => by
    show (B, am_E f cA d) :: (am_ws f cA (B + 1) h).set k (B + (k + 1), am_E f cA c) = (B, am_E f cA d) :: am_ws f cA (B + 1) (h.set k c)
    rw [← am_ws_set f cA h (B + 1) k c, show B + 1 + k = B + (k + 1) by omega]
theorem am_ws_app (f : Nat → Nat) (cA : Nat → ClassId) : ∀ (h g : am_H) (B : Nat), am_ws f cA B (h ++ g) = am_ws f cA B h ++ am_ws f cA (B + h.length) g
  | [], g, B => by simp [am_ws]
  | d :: h, g, B => by
    show (B, am_E f cA d) :: am_ws f cA (B + 1) (h ++ g) = _
    rw [am_ws_app f cA h g (B + 1)]
    simp [am_ws, Nat.add_assoc, Nat.add_comm 1]
theorem am_ws_D (f : Nat → Nat) (cA : Nat → ClassId) (B : Nat) (h : am_H) : va_D (fun q => B ≤ q) (am_ws f cA B h) := by
  refine ⟨fun i j p q hi hj e => ?_, fun k q hk => ?_⟩
  · rw [am_ws_get] at hi hj
    obtain ⟨x, -, rfl⟩ := Option.map_eq_some_iff.mp hi
    obtain ⟨y, -, rfl⟩ := Option.map_eq_some_iff.mp hj
    have e2 : B + i = B + j := e
    omega
  · rw [am_ws_get] at hk
    obtain ⟨x, -, rfl⟩ := Option.map_eq_some_iff.mp hk
    exact Nat.le_add_right _ _
def am_sc : am_C → Nat
  | .inl (_, x) => x.1
  | .inr (_, fs) => fs.length
def am_sz : am_H → Nat
  | [] => 0
  | c :: h => am_sc c + am_sz h
theorem am_sz_app : ∀ (h g : am_H), am_sz (h ++ g) = am_sz h + am_sz g
  | [], g => by simp [am_sz]
  | c :: h, g => by
    show am_sc c + am_sz (h ++ g) = am_sc c + am_sz h + am_sz g
    rw [am_sz_app h g, Nat.add_assoc]
theorem am_sz_set : ∀ (h : am_H) (k : Nat) (c d : am_C), h[k]? = some d → am_sc c = am_sc d → am_sz (h.set k c) = am_sz h
  | [], k, c, d, hk, _ => by simp at hk
  | e :: h, 0, c, d, hk, hc => by
    simp at hk
    subst hk
    show am_sc c + am_sz h = am_sc e + am_sz h
    rw [hc]
  | e :: h, k + 1, c, d, hk, hc => by
    show am_sc e + am_sz (h.set k c) = am_sc e + am_sz h
    rw [am_sz_set h k c d (by simpa using hk) hc]
def am_tys (cA : Nat → ClassId) : List (ClassId × FieldType) := [(cA 0, am_ty 0), (cA 1, am_ty 1), (cA 2, am_ty 2), (cA 3, am_ty 3), (cA 4, am_ty 4), (cA 5, am_ty 5), (cA 6, am_ty 6), (cA 7, am_ty 7)]
-- locals: the value .float 0 stands for nothing known
def am_L (f : Nat → Nat) (nL : Nat) (L : List Value) (ls : Array Slot) : Prop := ls.size = nL ∧ lv_wf ls ∧ ∀ (i : Nat) (v : Value), L[i]? = some v → v ≠ .float 0 → ls[i]? = some (.val (am_cv f v))
def am_cl : Value → Value
  | .long _ => .float 0
  | .double _ => .float 0
  | v => v
def am_st1 : List Value → Nat → Value → List Value
  | [], _, _ => []
  | _ :: L, 0, v => v :: L
  | w :: L, 1, v => am_cl w :: am_st1 L 0 v
  | w :: L, k + 2, v => w :: am_st1 L (k + 1) v
def am_st2 : List Value → Nat → Value → List Value
  | [], _, _ => []
  | [_], 0, v => [v]
  | _ :: _ :: L, 0, v => v :: .float 0 :: L
  | w :: L, 1, v => am_cl w :: am_st2 L 0 v
  | w :: L, k + 2, v => w :: am_st2 L (k + 1) v
def am_pr (f : Nat → Nat) : Nat → List Value → List (Nat × Value)
  | _, [] => []
  | k, v :: L => if v = .float 0 then am_pr f (k + 1) L else (k, am_cv f v) :: am_pr f (k + 1) L
theorem am_pr_mem (f : Nat → Nat) : ∀ (L : List Value) (k i : Nat) (v : Value), L[i]? = some v → v ≠ .float 0 → (k + i, am_cv f v) ∈ am_pr f k L
  | [], k, i, v, h, _ => by simp at h
  | w :: L, k, 0, v, h, hv => by
    simp at h
    subst h
    simp [am_pr, hv]
  | w :: L, k, i + 1, v, h, hv => by
    have := am_pr_mem f L (k + 1) i v (by simpa using h) hv
    rw [show k + 1 + i = k + (i + 1) by omega] at this
    unfold am_pr
    split
    · exact this
    · exact List.mem_cons_of_mem _ this
theorem am_pr_of (f : Nat → Nat) : ∀ (L : List Value) (k : Nat) (q : Nat × Value), q ∈ am_pr f k L → ∃ i v, L[i]? = some v ∧ v ≠ .float 0 ∧ q = (k + i, am_cv f v)
  | [], k, q, h => by simp [am_pr] at h
  | w :: L, k, q, h => by
    unfold am_pr at h
    split at h
    · obtain ⟨i, v, h1, h2, h3⟩ := am_pr_of f L (k + 1) q h
      exact ⟨i + 1, v, by simpa using h1, h2, by rw [h3, show k + 1 + i = k + (i + 1) by omega]⟩
    · rename_i hw
      rcases List.mem_cons.mp h with h | h
      · exact ⟨0, w, by simp, hw, by simpa using h⟩
      · obtain ⟨i, v, h1, h2, h3⟩ := am_pr_of f L (k + 1) q h
        exact ⟨i + 1, v, by simpa using h1, h2, by rw [h3, show k + 1 + i = k + (i + 1) by omega]⟩
theorem am_L.has {f : Nat → Nat} {nL : Nat} {L : List Value} {ls : Array Slot} (h : am_L f nL L ls) : lv_has ls nL (am_pr f 0 L) := by
  refine ⟨h.1, h.2.1, fun q hq => ?_⟩
  obtain ⟨i, v, h1, h2, rfl⟩ := am_pr_of f L 0 q hq
  rw [Nat.zero_add]
  exact h.2.2 i v h1 h2
theorem am_cl_ne {w v : Value} (h : am_cl w = v) (hv : v ≠ .float 0) : w = v ∧ v.category = 1 := by
  cases w <;> simp [am_cl] at h <;> subst h <;> simp_all [Value.category]
theorem am_st1_get : ∀ (L : List Value) (i : Nat) (v : Value) (j : Nat) (w : Value), (am_st1 L i v)[j]? = some w → w ≠ .float 0 → (j = i ∧ w = v) ∨ (j ≠ i ∧ L[j]? = some w ∧ ¬ (j + 1 = i ∧ w.category = 2))
  | [], i, v, j, w, h, _ => by simp [am_st1] at h
  | u :: L, 0, v, 0, w, h, _ => by simp [am_st1] at h; exact Or.inl ⟨rfl, h.symm⟩
  | u :: L, 0, v, j + 1, w, h, _ => by simp [am_st1] at h; exact Or.inr ⟨by omega, by simpa using h, by omega⟩
  | u :: L, 1, v, 0, w, h, hw => by
    simp [am_st1] at h
    obtain ⟨h1, h2⟩ := am_cl_ne h hw
    subst h1
    exact Or.inr ⟨by omega, by simp, fun q => by omega⟩
  | u :: L, 1, v, j + 1, w, h, hw => by
    have h' : (am_st1 L 0 v)[j]? = some w := by simpa [am_st1] using h
    rcases am_st1_get L 0 v j w h' hw with ⟨h1, h2⟩ | ⟨h1, h2, h3⟩
    · exact Or.inl ⟨by omega, h2⟩
    · exact Or.inr ⟨by omega, by simpa using h2, by omega⟩
  | u :: L, k + 2, v, 0, w, h, _ => by simp [am_st1] at h; exact Or.inr ⟨by omega, by simpa using h, by omega⟩
  | u :: L, k + 2, v, j + 1, w, h, hw => by
    have h' : (am_st1 L (k + 1) v)[j]? = some w := by simpa [am_st1] using h
    rcases am_st1_get L (k + 1) v j w h' hw with ⟨h1, h2⟩ | ⟨h1, h2, h3⟩
    · exact Or.inl ⟨by omega, h2⟩
    · exact Or.inr ⟨by omega, by simpa using h2, fun q => h3 ⟨by omega, q.2⟩⟩
theorem am_st2_get : ∀ (L : List Value) (i : Nat) (v : Value) (j : Nat) (w : Value), (am_st2 L i v)[j]? = some w → w ≠ .float 0 → (j = i ∧ w = v) ∨ (j ≠ i ∧ j ≠ i + 1 ∧ L[j]? = some w ∧ ¬ (j + 1 = i ∧ w.category = 2))
  | [], i, v, j, w, h, _ => by simp [am_st2] at h
  | [u], 0, v, 0, w, h, _ => by simp [am_st2] at h; exact Or.inl ⟨rfl, h.symm⟩
  | [u], 0, v, j + 1, w, h, _ => by simp [am_st2] at h
  | u :: u2 :: L, 0, v, 0, w, h, _ => by simp [am_st2] at h; exact Or.inl ⟨rfl, h.symm⟩
  | u :: u2 :: L, 0, v, 1, w, h, hw => by simp [am_st2] at h; exact absurd h.symm hw
  | u :: u2 :: L, 0, v, j + 2, w, h, _ => by simp [am_st2] at h; exact Or.inr ⟨by omega, by omega, by simpa using h, by omega⟩
  | u :: L, 1, v, 0, w, h, hw => by
    have h' : am_cl u = w := by simpa [am_st2] using h
    obtain ⟨h1, h2⟩ := am_cl_ne h' hw
    subst h1
    exact Or.inr ⟨by omega, by omega, by simp, fun q => by omega⟩
  | u :: L, 1, v, j + 1, w, h, hw => by
    have h' : (am_st2 L 0 v)[j]? = some w := by simpa [am_st2] using h
    rcases am_st2_get L 0 v j w h' hw with ⟨h1, h2⟩ | ⟨h1, h2, h3, h4⟩
    · exact Or.inl ⟨by omega, h2⟩
    · exact Or.inr ⟨by omega, by omega, by simpa using h3, by omega⟩
  | u :: L, k + 2, v, 0, w, h, _ => by
    have h' : u = w := by simpa [am_st2] using h
    exact Or.inr ⟨by omega, by omega, by simpa using h', by omega⟩
  | u :: L, k + 2, v, j + 1, w, h, hw => by
    have h' : (am_st2 L (k + 1) v)[j]? = some w := by simpa [am_st2] using h
    rcases am_st2_get L (k + 1) v j w h' hw with ⟨h1, h2⟩ | ⟨h1, h2, h3, h4⟩
    · exact Or.inl ⟨by omega, h2⟩
    · exact Or.inr ⟨by omega, by omega, by simpa using h3, fun q => h4 ⟨by omega, q.2⟩⟩
theorem am_cv_cat (f : Nat → Nat) (v : Value) : (am_cv f v).category = v.category := by cases v <;> rfl
theorem am_L.st1 {f : Nat → Nat} {nL i : Nat} {L : List Value} {v : Value} {ls : Array Slot} (h : lv_has ls nL ((i, am_cv f v) :: (am_pr f 0 L).filter (fun q => !(q.1 == i) && !(q.1 + 1 == i && q.2.category == 2)))) : am_L f nL (am_st1 L i v) ls := by
  refine ⟨h.1, h.2.1, fun j w hj hw => ?_⟩
  rcases am_st1_get L i v j w hj hw with ⟨h1, h2⟩ | ⟨h1, h2, h3⟩
  · subst h1; subst h2
    exact h.2.2 (j, am_cv f w) List.mem_cons_self
  · have hm := am_pr_mem f L 0 j w h2 hw
    rw [Nat.zero_add] at hm
    refine h.2.2 (j, am_cv f w) (List.mem_cons_of_mem _ (List.mem_filter.mpr ⟨hm, ?_⟩))
    simp only [am_cv_cat]
    by_cases e : j + 1 = i
    · have h4 : ¬ w.category = 2 := fun q => h3 ⟨e, q⟩
      simp [h1, h4]
    · simp [h1, e]
theorem am_L.st2 {f : Nat → Nat} {nL i : Nat} {L : List Value} {v : Value} {ls : Array Slot} (h : lv_has ls nL ((i, am_cv f v) :: (am_pr f 0 L).filter (fun q => !(q.1 == i) && (!(q.1 == i + 1) && !(q.1 + 1 == i && q.2.category == 2))))) : am_L f nL (am_st2 L i v) ls := by
  refine ⟨h.1, h.2.1, fun j w hj hw => ?_⟩
  rcases am_st2_get L i v j w hj hw with ⟨h1, h2⟩ | ⟨h1, h2, h2', h3⟩
  · subst h1; subst h2
    exact h.2.2 (j, am_cv f w) List.mem_cons_self
  · have hm := am_pr_mem f L 0 j w h2' hw
    rw [Nat.zero_add] at hm
    refine h.2.2 (j, am_cv f w) (List.mem_cons_of_mem _ (List.mem_filter.mpr ⟨hm, ?_⟩))
    simp only [am_cv_cat]
    by_cases e : j + 1 = i
    · have h4 : ¬ w.category = 2 := fun q => h3 ⟨e, q⟩
      simp [h1, h2, h4]
    · simp [h1, h2, e]
-- entry
def am_lay : List Value → List Value
  | [] => []
  | .long x :: vs => .long x :: .float 0 :: am_lay vs
  | v :: vs => v :: am_lay vs
def am_eL (vs : List Value) (nL : Nat) : List Value := am_lay vs ++ List.replicate (nL - (am_lay vs).length) (.float 0)
def am_nd : List Value → Bool
  | [] => true
  | .double _ :: _ => false
  | _ :: vs => am_nd vs
theorem am_lay_get (f : Nat → Nat) : ∀ (vs : List Value) (k i : Nat) (v : Value), am_nd vs = true → (am_lay vs)[i]? = some v → v ≠ .float 0 → (k + i, am_cv f v) ∈ lv_args k (vs.map (am_cv f))
  | [], k, i, v, _, h, _ => by simp [am_lay] at h
  | u :: vs, k, i, v, hn, h, hv => by
    cases u with
    | double x => simp [am_nd] at hn
    | long x =>
      have hn' : am_nd vs = true := by simpa [am_nd] using hn
      simp only [am_lay] at h
      simp only [List.map_cons, am_cv, lv_args, Value.category, if_true]
      match i, h with
      | 0, h => simp at h; subst h; simp [am_cv]
      | 1, h => simp at h; exact absurd h.symm hv
      | i + 2, h =>
        have := am_lay_get f vs (k + 2) i v hn' (by simpa using h) hv
        rw [show k + 2 + i = k + (i + 2) by omega] at this
        exact List.mem_cons_of_mem _ this
    | int x =>
      have hn' : am_nd vs = true := by simpa [am_nd] using hn
      simp only [am_lay] at h
      simp only [List.map_cons, am_cv, lv_args, Value.category]
      match i, h with
      | 0, h => simp at h; subst h; simp [am_cv]
      | i + 1, h =>
        have := am_lay_get f vs (k + 1) i v hn' (by simpa using h) hv
        rw [show k + 1 + i = k + (i + 1) by omega] at this
        exact List.mem_cons_of_mem _ this
    | float x =>
      have hn' : am_nd vs = true := by simpa [am_nd] using hn
      simp only [am_lay] at h
      simp only [List.map_cons, am_cv, lv_args, Value.category]
      match i, h with
      | 0, h => simp at h; subst h; simp [am_cv]
      | i + 1, h =>
        have := am_lay_get f vs (k + 1) i v hn' (by simpa using h) hv
        rw [show k + 1 + i = k + (i + 1) by omega] at this
        exact List.mem_cons_of_mem _ this
    | null =>
      have hn' : am_nd vs = true := by simpa [am_nd] using hn
      simp only [am_lay] at h
      simp only [List.map_cons, am_cv, lv_args, Value.category]
      match i, h with
      | 0, h => simp at h; subst h; simp [am_cv]
      | i + 1, h =>
        have := am_lay_get f vs (k + 1) i v hn' (by simpa using h) hv
        rw [show k + 1 + i = k + (i + 1) by omega] at this
        exact List.mem_cons_of_mem _ this
    | ref x =>
      have hn' : am_nd vs = true := by simpa [am_nd] using hn
      simp only [am_lay] at h
      simp only [List.map_cons, am_cv, lv_args, Value.category]
      match i, h with
      | 0, h => simp at h; subst h; simp [am_cv]
      | i + 1, h =>
        have := am_lay_get f vs (k + 1) i v hn' (by simpa using h) hv
        rw [show k + 1 + i = k + (i + 1) by omega] at this
        exact List.mem_cons_of_mem _ this
    | retAddr x =>
      have hn' : am_nd vs = true := by simpa [am_nd] using hn
      simp only [am_lay] at h
      simp only [List.map_cons, am_cv, lv_args, Value.category]
      match i, h with
      | 0, h => simp at h; subst h; simp [am_cv]
      | i + 1, h =>
        have := am_lay_get f vs (k + 1) i v hn' (by simpa using h) hv
        rw [show k + 1 + i = k + (i + 1) by omega] at this
        exact List.mem_cons_of_mem _ this
theorem am_L.entry {f : Nat → Nat} {nL : Nat} {vs : List Value} {ls : Array Slot} (hn : am_nd vs = true) (h : lv_has ls nL (lv_args 0 (vs.map (am_cv f)))) : am_L f nL (am_eL vs nL) ls := by
  refine ⟨h.1, h.2.1, fun i v hi hv => ?_⟩
  unfold am_eL at hi
  by_cases hl : i < (am_lay vs).length
  · rw [List.getElem?_append_left hl] at hi
    have := am_lay_get f vs 0 i v hn hi hv
    rw [Nat.zero_add] at this
    exact h.2.2 _ this
  · rw [List.getElem?_append_right (by omega)] at hi
    have := List.mem_of_getElem? hi
    exact absurd (List.eq_of_mem_replicate this) hv
