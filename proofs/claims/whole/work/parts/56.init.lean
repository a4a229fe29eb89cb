-- ===== the constructors: a heap as its length and a function of cells =====
def uC (c : Nat → am_C) (k : Nat) (x : am_C) : Nat → am_C := fun q => if q = k then x else c q
def hl (n : Nat) (c : Nat → am_C) : am_H := (List.range n).map c
theorem hl_len (n : Nat) (c : Nat → am_C) : (hl n c).length = n := by simp [hl]
theorem hl_get {n k : Nat} {c : Nat → am_C} (h : k < n) : (hl n c)[k]? = some (c k) := by
  unfold hl
  rw [List.getElem?_map, List.getElem?_range h]
  rfl
theorem hl_out {n k : Nat} {c : Nat → am_C} (h : n ≤ k) : (hl n c)[k]? = none := List.getElem?_eq_none (by rw [hl_len]; exact h)
theorem hl_set {n k : Nat} {c : Nat → am_C} {x : am_C} (h : k < n) : (hl n c).set k x = hl n (uC c k x) := by
  apply List.ext_getElem?
  intro i
  by_cases e : i = k
  · subst e
    rw [List.getElem?_set_self (by rw [hl_len]; exact h), hl_get h, uC, if_pos rfl]
  · rw [List.getElem?_set_ne (fun q => e q.symm)]
    by_cases hi : i < n
    · rw [hl_get hi, hl_get hi, uC, if_neg e]
    · rw [hl_out (by omega), hl_out (by omega)]
theorem hl_app {n : Nat} {c : Nat → am_C} {x : am_C} : hl n c ++ [x] = hl (n + 1) (uC c n x) := by
  apply List.ext_getElem?
  intro i
  by_cases hi : i < n
  · rw [List.getElem?_append_left (by rw [hl_len]; exact hi), hl_get hi, hl_get (by omega), uC, if_neg (by omega)]
  · rw [List.getElem?_append_right (by rw [hl_len]; omega), hl_len]
    by_cases e : i = n
    · subst e
      rw [Nat.sub_self, hl_get (by omega), uC, if_pos rfl]
      rfl
    · rw [hl_out (by omega)]
      exact List.getElem?_eq_none (by show 1 ≤ i - n; omega)
def uM (c : Nat → am_C) (n : Nat) (x y : am_C) : Nat → am_C := fun q => if q = n then x else if n ≤ q then y else c q
theorem hl_mna {n N : Nat} {c : Nat → am_C} {x y : am_C} : hl n c ++ (x :: List.replicate N y) = hl (n + 1 + N) (uM c n x y) := by
  apply List.ext_getElem?
  intro i
  by_cases hi : i < n
  · rw [List.getElem?_append_left (by rw [hl_len]; exact hi), hl_get hi, hl_get (by omega), uM, if_neg (by omega), if_neg (by omega)]
  · rw [List.getElem?_append_right (by rw [hl_len]; omega), hl_len]
    by_cases e : i = n
    · subst e
      rw [Nat.sub_self, hl_get (by omega), uM, if_pos rfl]
      rfl
    · obtain ⟨m, hm⟩ : ∃ m, i - n = m + 1 := ⟨i - n - 1, by omega⟩
      rw [hm, List.getElem?_cons_succ]
      by_cases h2 : m < N
      · rw [List.getElem?_replicate, if_pos h2, hl_get (by omega), uM, if_neg e, if_pos (by omega)]
      · rw [List.getElem?_replicate, if_neg h2, hl_out (by omega)]
theorem hl_congr {n : Nat} {c c' : Nat → am_C} (h : ∀ q, q < n → c q = c' q) : hl n c = hl n c' := by
  apply List.ext_getElem?
  intro i
  by_cases hi : i < n
  · rw [hl_get hi, hl_get hi, h i hi]
  · rw [hl_out (by omega), hl_out (by omega)]
def cI (N : Nat) : am_C := .inl (0, (N, .inl (fun _ => 0)))
def cB (N : Nat) : am_C := .inl (1, (N, .inl (fun _ => 0)))
def cJ (N : Nat) : am_C := .inl (2, (N, .inr (.inl (fun _ => 0))))
def cR (t N : Nat) (f : Nat → Option Nat) : am_C := .inl (t, (N, .inr (.inr (.inr (.inr f)))))
def tk (X : Nat × (Nat → Int32)) (d : Nat) (k : am_K) (Q : Option Value → Nat → (Nat → am_C) → Prop) (pc : Nat) (L S : List Value) (n : Nat) (c : Nat → am_C) : Prop := wh X (am_C_ X d) k (fun r h' => ∃ n' c', h' = hl n' c' ∧ Q r n' c') pc L S (hl n c)
def ck (X : Nat × (Nat → Int32)) (d : Nat) (y : am_K) (vs : List Value) (n : Nat) (c : Nat → am_C) (Q : Nat → (Nat → am_C) → Prop) : Prop := ∃ n' c', am_C_ X d y vs (hl n c) none (hl n' c') ∧ Q n' c'
theorem ck_of {X : Nat × (Nat → Int32)} {d : Nat} {y : am_K} {vs L : List Value} {n : Nat} {c : Nat → am_C} {Q : Nat → (Nat → am_C) → Prop} (ok : am_ok y) (hL : am_eL vs y.2.2.1 = L) (h : tk X d y (fun r n' c' => r = none ∧ Q n' c') 0 L [] n c) (hnd : am_nd vs = true := by rfl) (hlen : (am_lay vs).length ≤ y.2.2.1 := by exact Nat.le_of_ble_eq_true rfl) : ck X (d + 1) y vs n c Q := by
  obtain ⟨r, h', ⟨n', c', e, e2, q⟩, hr⟩ := h
  subst e; subst e2
  exact ⟨n', c', ⟨ok, hnd, hlen, by rw [hL]; exact hr⟩, q⟩
section TK
variable {X : Nat × (Nat → Int32)} {d : Nat} {k : am_K} {Q : Option Value → Nat → (Nat → am_C) → Prop} {pc : Nat} {L S L' : List Value} {n n' r : Nat} {c : Nat → am_C}
theorem tk_al {q : Fin 4} {x : Nat} (hd : decode k.2.1 pc = .ok (.aload_n q, 1)) (hL : L[(q : Nat)]? = some (.ref x)) (h : tk X d k Q (pc + 1) L (.ref x :: S) n c) : tk X d k Q pc L S n c := w_aload_n _ _ _ _ _ _ hd hL h
theorem tk_il {q : Fin 4} {x : Int32} (hd : decode k.2.1 pc = .ok (.iload_n q, 1)) (hL : L[(q : Nat)]? = some (.int x)) (h : tk X d k Q (pc + 1) L (.int x :: S) n c) : tk X d k Q pc L S n c := w_iload_n _ _ _ _ _ _ hd hL h
theorem tk_ic {m : Int} {v : Int32} (hd : decode k.2.1 pc = .ok (.iconst m, 1)) (hv : Int32.ofInt m = v) (h : tk X d k Q (pc + 1) L (.int v :: S) n c) : tk X d k Q pc L S n c := w_iconst _ _ _ _ _ _ hd hv h
theorem tk_bi {m : Int} {v : Int32} (hd : decode k.2.1 pc = .ok (.bipush m, 2)) (hv : (Int8.ofInt m).toInt32 = v) (h : tk X d k Q (pc + 2) L (.int v :: S) n c) : tk X d k Q pc L S n c := w_bipush _ _ _ _ _ _ hd hv h
theorem tk_si {m : Int} {v : Int32} (hd : decode k.2.1 pc = .ok (.sipush m, 3)) (hv : (Int16.ofInt m).toInt32 = v) (h : tk X d k Q (pc + 3) L (.int v :: S) n c) : tk X d k Q pc L S n c := w_sipush _ _ _ _ _ _ hd hv h
theorem tk_lc {m : Fin 2} {v : Int64} (hd : decode k.2.1 pc = .ok (.lconst m, 1)) (hv : Int64.ofNat (m : Nat) = v) (h : tk X d k Q (pc + 1) L (.long v :: S) n c) : tk X d k Q pc L S n c := w_lconst _ _ _ _ _ _ hd hv h
theorem tk_is {q : Fin 4} {x : Int32} (hd : decode k.2.1 pc = .ok (.istore_n q, 1)) (hq : (q : Nat) < k.2.2.1) (hL : am_st1 L q (.int x) = L') (h : tk X d k Q (pc + 1) L' S n c) : tk X d k Q pc L (.int x :: S) n c := w_istore_n _ _ _ _ _ _ hd hq (by rw [hL]; exact h)
theorem tk_as {q : Fin 4} {x : Nat} (hd : decode k.2.1 pc = .ok (.astore_n q, 1)) (hq : (q : Nat) < k.2.2.1) (hL : am_st1 L q (.ref x) = L') (h : tk X d k Q (pc + 1) L' S n c) : tk X d k Q pc L (.ref x :: S) n c := w_astore_n _ _ _ _ _ _ hd hq (by rw [hL]; exact h)
theorem tk_ii {q : Nat} {m : Int} {x v : Int32} (hd : decode k.2.1 pc = .ok (.iinc q m, 3)) (hx : L[q]? = some (.int x)) (hv : x + Int32.ofInt m = v) (hq : q < k.2.2.1) (hL : am_st1 L q (.int v) = L') (h : tk X d k Q (pc + 3) L' S n c) : tk X d k Q pc L S n c := w_iinc _ _ _ _ _ _ _ _ hd hx hv hq (by rw [hL]; exact h)
theorem tk_dup {v : Value} (hd : decode k.2.1 pc = .ok (.dup, 1)) (hv : v.category = 1) (h : tk X d k Q (pc + 1) L (v :: v :: S) n c) : tk X d k Q pc L (v :: S) n c := w_dup _ _ _ _ _ hd hv h
theorem tk_goto {off : Int} {tgt : Nat} (hd : decode k.2.1 pc = .ok (.goto off, 3)) (ht : (pc : Int) + off = (tgt : Int)) (h : tk X d k Q tgt L S n c) : tk X d k Q pc L S n c := w_goto _ _ _ _ _ _ hd ht h
theorem tk_geT {off : Int} {tgt : Nat} {x y : Int32} (hd : decode k.2.1 pc = .ok (.if_icmp .ge off, 3)) (ht : (pc : Int) + off = (tgt : Int)) (hb : y ≤ x) (h : tk X d k Q tgt L S n c) : tk X d k Q pc L (.int y :: .int x :: S) n c := w_icmp_ge _ _ _ _ _ _ _ _ hd ht (fun _ => h) (fun q => absurd hb q)
theorem tk_geF {off : Int} {x y : Int32} (hd : decode k.2.1 pc = .ok (.if_icmp .ge off, 3)) (hb : ¬ y ≤ x) (h : tk X d k Q (pc + 3) L S n c) (ht : ∃ tgt : Nat, (pc : Int) + off = (tgt : Int) := by exact ⟨_, rfl⟩) : tk X d k Q pc L (.int y :: .int x :: S) n c := by
  obtain ⟨tgt, ht⟩ := ht
  exact w_icmp_ge _ _ _ _ _ _ _ _ hd ht (fun q => absurd q hb) (fun _ => h)
theorem tk_gtT {off : Int} {tgt : Nat} {x y : Int32} (hd : decode k.2.1 pc = .ok (.if_icmp .gt off, 3)) (ht : (pc : Int) + off = (tgt : Int)) (hb : y < x) (h : tk X d k Q tgt L S n c) : tk X d k Q pc L (.int y :: .int x :: S) n c := w_icmp_gt _ _ _ _ _ _ _ _ hd ht (fun _ => h) (fun q => absurd hb q)
theorem tk_gtF {off : Int} {x y : Int32} (hd : decode k.2.1 pc = .ok (.if_icmp .gt off, 3)) (hb : ¬ y < x) (h : tk X d k Q (pc + 3) L S n c) (ht : ∃ tgt : Nat, (pc : Int) + off = (tgt : Int) := by exact ⟨_, rfl⟩) : tk X d k Q pc L (.int y :: .int x :: S) n c := by
  obtain ⟨tgt, ht⟩ := ht
  exact w_icmp_gt _ _ _ _ _ _ _ _ hd ht (fun q => absurd q hb) (fun _ => h)
theorem tk_obj {idx a : Nat} (hd : decode k.2.1 pc = .ok (.invokespecial idx, 3)) (hok : am_okO k.1.cls idx) (hcat : am_cat S ≤ 8) (h : tk X d k Q (pc + 3) L S n c) : tk X d k Q pc L (.ref a :: S) n c := w_objI _ _ _ _ _ _ hd hok hcat h
theorem tk_new {idx ci : Nat} {fs : List Value} (hd : decode k.2.1 pc = .ok (.new idx, 3)) (hok : am_okN k.1.cls idx ci fs) (hn : n + 1 = n') (hr : n + 2 = r) (h : tk X d k Q (pc + 3) L (.ref r :: S) n' (uC c n (.inr (ci, fs)))) : tk X d k Q pc L S n c := by
  subst hn; subst hr
  refine w_new _ _ _ _ _ _ _ hd hok ?_
  rw [hl_len, hl_app]
  exact h
theorem tk_newI {N : Nat} {i : Int32} (hd : decode k.2.1 pc = .ok (.newarray .int, 2)) (hy : Cond.arrayClass .int ∈ am_tb) (hi : i = nI N) (hN : N < 3000) (hn : n + 1 = n') (hr : n + 2 = r) (h : tk X d k Q (pc + 2) L (.ref r :: S) n' (uC c n (cI N))) : tk X d k Q pc L (.int i :: S) n c := by
  subst hn; subst hr; subst hi
  refine w_newa _ _ _ _ _ 0 N _ _ hd rfl (by decide) hy (nI_pos (by omega)) (nI_clamp (by omega)) (by omega) rfl ?_
  rw [hl_len, hl_app]
  exact h
theorem tk_newB {N : Nat} {i : Int32} (hd : decode k.2.1 pc = .ok (.newarray .byte, 2)) (hy : Cond.arrayClass .byte ∈ am_tb) (hi : i = nI N) (hN : N < 3000) (hn : n + 1 = n') (hr : n + 2 = r) (h : tk X d k Q (pc + 2) L (.ref r :: S) n' (uC c n (cB N))) : tk X d k Q pc L (.int i :: S) n c := by
  subst hn; subst hr; subst hi
  refine w_newa _ _ _ _ _ 1 N _ _ hd rfl (by decide) hy (nI_pos (by omega)) (nI_clamp (by omega)) (by omega) rfl ?_
  rw [hl_len, hl_app]
  exact h
theorem tk_newJ {N : Nat} {i : Int32} (hd : decode k.2.1 pc = .ok (.newarray .long, 2)) (hy : Cond.arrayClass .long ∈ am_tb) (hi : i = nI N) (hN : N < 3000) (hn : n + 1 = n') (hr : n + 2 = r) (h : tk X d k Q (pc + 2) L (.ref r :: S) n' (uC c n (cJ N))) : tk X d k Q pc L (.int i :: S) n c := by
  subst hn; subst hr; subst hi
  refine w_newa _ _ _ _ _ 2 N _ _ hd rfl (by decide) hy (nI_pos (by omega)) (nI_clamp (by omega)) (by omega) rfl ?_
  rw [hl_len, hl_app]
  exact h
theorem tk_anew {idx t N : Nat} {C : String} {i : Int32} (hd : decode k.2.1 pc = .ok (.anewarray idx, 3)) (hC : am_ty t = .object C) (ht : 3 ≤ t ∧ t < 7) (hl_ : Cond.classLink k.1.cls idx C ∈ am_tb) (hi : i = nI N) (hN : N < 3000) (hn : n + 1 = n') (hr : n + 2 = r) (h : tk X d k Q (pc + 3) L (.ref r :: S) n' (uC c n (cR t N (fun _ => none)))) : tk X d k Q pc L (.int i :: S) n c := by
  subst hn; subst hr; subst hi
  refine w_anew _ _ _ _ _ t N C _ hd hC ht hl_ (nI_pos (by omega)) (nI_clamp (by omega)) (by omega) ?_
  rw [hl_len, hl_app]
  exact h
theorem tk_mna {idx N M : Nat} {i j : Int32} (hd : decode k.2.1 pc = .ok (.multianewarray idx 2, 4)) (hc : Cond.classLink k.1.cls idx "[[I" ∈ am_tb) (hy : Cond.arrayClass .int ∈ am_tb) (hi : i = nI N) (hj : j = nI M) (hN : N < 3000) (hM : M < 3000) (hn : n + 1 + N = n') (hr : n + 2 = r) (h : tk X d k Q (pc + 4) L (.ref r :: S) n' (uM c n (cR 7 N (fun i => if i < N then some (n + 3 + i) else none)) (cI M))) : tk X d k Q pc L (.int j :: .int i :: S) n c := by
  subst hn; subst hr; subst hi; subst hj
  refine w_mna _ _ _ _ _ N M _ _ hd hc hy (nI_pos (by omega)) (nI_pos (by omega)) (nI_clamp (by omega)) (nI_clamp (by omega)) (by omega) (by omega) ?_
  rw [hl_len, hl_mna]
  exact h
theorem tk_putF {idx ci j a : Nat} {ft : FieldType} {fs fs' : List Value} {v : Value} (hd : decode k.2.1 pc = .ok (.putfield idx, 3)) (hok : am_okPF k.1.cls idx ci j ft) (hnm : k.1.name = "<init>") (ha : a < n) (hc : c a = .inr (ci, fs)) (hj : j < fs.length) (h1 : ∀ f, narrow ft (am_cv f v) = am_cv f v) (h2 : ∀ f, fits ft (am_cv f v) = true) (hfs : fs.set j v = fs') (h : tk X d k Q (pc + 3) L S n (uC c a (.inr (ci, fs')))) : tk X d k Q pc L (v :: .ref (a + 2) :: S) n c := by
  subst hfs
  refine w_putF _ _ _ _ _ ci j a ft fs v hd hok hnm (by rw [hl_get ha, hc]) hj h1 h2 ?_
  rw [hl_set ha]
  exact h
theorem tk_putI {idx ci j a : Nat} {fs fs' : List Value} {x : Int32} (hd : decode k.2.1 pc = .ok (.putfield idx, 3)) (hok : am_okP k.1.cls idx ci j .int) (ha : a < n) (hc : c a = .inr (ci, fs)) (hj : j < fs.length) (hfs : fs.set j (.int x) = fs') (h : tk X d k Q (pc + 3) L S n (uC c a (.inr (ci, fs')))) : tk X d k Q pc L (.int x :: .ref (a + 2) :: S) n c := by
  subst hfs
  refine w_putI _ _ _ _ _ ci j a fs x hd hok (by rw [hl_get ha, hc]) hj ?_
  rw [hl_set ha]
  exact h
theorem tk_putJ {idx ci j a : Nat} {fs fs' : List Value} {x : Int64} (hd : decode k.2.1 pc = .ok (.putfield idx, 3)) (hok : am_okP k.1.cls idx ci j .long) (ha : a < n) (hc : c a = .inr (ci, fs)) (hj : j < fs.length) (hfs : fs.set j (.long x) = fs') (h : tk X d k Q (pc + 3) L S n (uC c a (.inr (ci, fs')))) : tk X d k Q pc L (.long x :: .ref (a + 2) :: S) n c := by
  subst hfs
  refine w_putJ _ _ _ _ _ ci j a fs x hd hok (by rw [hl_get ha, hc]) hj ?_
  rw [hl_set ha]
  exact h
theorem tk_getf {idx ci j a : Nat} {fs : List Value} {v : Value} (hd : decode k.2.1 pc = .ok (.getfield idx, 3)) (hok : am_okF k.1.cls idx ci j) (ha : a < n) (hc : c a = .inr (ci, fs)) (hj : fs[j]? = some v) (h : tk X d k Q (pc + 3) L (v :: S) n c) : tk X d k Q pc L (.ref (a + 2) :: S) n c := w_getf _ _ _ _ _ ci j a fs v hd hok (by rw [hl_get ha, hc]) hj h
theorem tk_iast {a N j : Nat} {f : Nat → Int32} {i x : Int32} (hd : decode k.2.1 pc = .ok (.iastore, 1)) (ha : a < n) (hc : c a = .inl (0, (N, .inl f))) (hi : i = nI j) (hj : j < N) (hN : N < 3000) (h : tk X d k Q (pc + 1) L S n (uC c a (.inl (0, (N, .inl (upd f j x)))))) : tk X d k Q pc L (.int x :: .int i :: .ref (a + 2) :: S) n c := by
  subst hi
  refine w_iast _ _ _ _ a N f _ x hd (by rw [hl_get ha, hc]) (vp_in_nI hj (by omega)) ?_
  rw [nI_clamp (by omega), hl_set ha]
  exact h
theorem tk_aast {a t N b ci j : Nat} {vs : List Value} {f : Nat → Option Nat} {i : Int32} (hd : decode k.2.1 pc = .ok (.aastore, 1)) (ha : a < n) (hc : c a = cR t N f) (ht : t < 8) (hb : b < n) (hcb : c b = .inr (ci, vs)) (hC : ∃ C T N ty, am_cls ci C T N ty ∧ am_ty t = .object C) (hi : i = nI j) (hj : j < N) (hN : N < 3000) (h : tk X d k Q (pc + 1) L S n (uC c a (cR t N (va_up f j (some (b + 2)))))) : tk X d k Q pc L (.ref (b + 2) :: .int i :: .ref (a + 2) :: S) n c := by
  subst hi
  refine w_aast _ _ _ _ a t N b ci vs f _ hd (by rw [hl_get ha, hc]; rfl) ht (by rw [hl_get hb, hcb]) hC (vp_in_nI hj (by omega)) ?_
  rw [nI_clamp (by omega), hl_set ha]
  exact h
theorem tk_aald {a t N j q : Nat} {f : Nat → Option Nat} {i : Int32} (hd : decode k.2.1 pc = .ok (.aaload, 1)) (ha : a < n) (hc : c a = cR t N f) (ht : 3 ≤ t ∧ t < 8) (hi : i = nI j) (hj : j < N) (hN : N < 3000) (hq : f j = some q) (h : tk X d k Q (pc + 1) L (.ref q :: S) n c) : tk X d k Q pc L (.int i :: .ref (a + 2) :: S) n c := by
  subst hi
  exact w_aald _ _ _ _ a t N q f _ hd (by rw [hl_get ha, hc]; rfl) ht (vp_in_nI hj (by omega)) (by rw [nI_clamp (by omega)]; exact hq) h
theorem tk_alen {a N : Nat} {f : Nat → Int32} (hd : decode k.2.1 pc = .ok (.arraylength, 1)) (ha : a < n) (hc : c a = .inl (0, (N, .inl f))) (h : tk X d k Q (pc + 1) L (.int (nI N) :: S) n c) : tk X d k Q pc L (.ref (a + 2) :: S) n c := w_alen _ _ _ _ a 0 (N, .inl f) hd (by rw [hl_get ha, hc]) (by decide) h
theorem tk_callI {idx m a : Nat} {y : am_K} {As S0 : List Value} {Q1 : Nat → Prop} {Q2 : (Nat → am_C) → Prop} (hd : decode k.2.1 pc = .ok (.invokespecial idx, 3)) (hok : am_okI k.1.cls idx y m) (hm : As.length = m) (hS : S0 = As.reverse ++ .ref (a + 2) :: S) (hcat : am_cat S ≤ 8) (hc : ck X d y (.ref (a + 2) :: As) n c (fun n' c' => Q1 n' ∧ Q2 c')) (kk : ∀ n' c', Q1 n' → Q2 c' → tk X d k Q (pc + 3) L S n' c') : tk X d k Q pc L S0 n c := by
  obtain ⟨n1, c1, h1, h2, h3⟩ := hc
  exact w_callI _ _ _ _ _ y m a As none _ S0 hd hok hm hS hcat h1 (kk n1 c1 h2 h3)
theorem tk_callIN {idx m a : Nat} {y : am_K} {As S0 : List Value} {Q1 : Nat → Prop} {Q2 : (Nat → am_C) → Prop} (hd : decode k.2.1 pc = .ok (.invokespecial idx, 3)) (hok : am_okIN k.1.cls idx y m) (hm : As.length = m) (hS : S0 = As.reverse ++ .ref (a + 2) :: S) (hcat : am_cat S ≤ 8) (hc : ck X d y (.ref (a + 2) :: As) n c (fun n' c' => Q1 n' ∧ Q2 c')) (kk : ∀ n' c', Q1 n' → Q2 c' → tk X d k Q (pc + 3) L S n' c') : tk X d k Q pc L S0 n c := by
  obtain ⟨n1, c1, h1, h2, h3⟩ := hc
  exact w_callIN _ _ _ _ _ y m a As none _ S0 hd hok hm hS hcat h1 (kk n1 c1 h2 h3)
theorem tk_vret (hd : decode k.2.1 pc = .ok (.return_, 1)) (ho : k.2.2.2 = none) (h : Q none n c) : tk X d k Q pc L [] n c := w_ret none (Or.inr (Or.inr ⟨rfl, hd⟩)) (by rw [ho]; exact trivial) ⟨n, c, rfl, h⟩
theorem tk_retc {c' : Nat → am_C} (hd : decode k.2.1 pc = .ok (.return_, 1)) (ho : k.2.2.2 = none) (h : Q none n c') (he : ∀ q, q < n → c q = c' q) : tk X d k Q pc L [] n c := w_ret none (Or.inr (Or.inr ⟨rfl, hd⟩)) (by rw [ho]; exact trivial) ⟨n, c', hl_congr he, h⟩
end TK
def iB (c : Nat → am_C) (n a : Nat) : Nat → am_C := fun q => if q = a then .inr (0, [.ref (n + 2), .ref (n + 3), .ref (n + 4), .ref (n + 5), .int 0, .int 0, .int 0, .int 0, .int 0]) else if n ≤ q then cI 7 else c q
def iD (c : Nat → am_C) (n a : Nat) : Nat → am_C := fun q => if q = a then .inr (1, [.ref (n + 2), .int 0]) else if n ≤ q then cI 40 else c q
def iR (c : Nat → am_C) (n a : Nat) : Nat → am_C := fun q => if q = a then .inr (3, [.ref (n + 2), .int (-1)]) else if n ≤ q then cI 40 else c q
def iT (c : Nat → am_C) (n a : Nat) : Nat → am_C := fun q => if q = a then .inr (5, [.ref (n + 2), .int (-1)]) else if n ≤ q then cB 60 else c q
def iS (c : Nat → am_C) (n a : Nat) : Nat → am_C := fun q => if q = a then .inr (4, [.long 0, .long 1]) else if n ≤ q then cI 0 else c q
def iO (c : Nat → am_C) : Nat → am_C := fun q => if q = 26 then .inr (2, [.ref 29, .ref 30, .ref 31, .int 0]) else if q < 27 then c q else if q < 29 then cI 5 else if q = 29 then cR 6 6 (fun i => ([32, 37, 42, 47, 52, 57] : List Nat)[i]?) else if q % 5 = 0 then .inr (0, [.ref (q + 3), .ref (q + 4), .ref (q + 5), .ref (q + 6), .int 0, .int 0, .int 0, .int 0, .int 0]) else cI 7
theorem b6 (a b c d e f : Nat) : va_up (va_up (va_up (va_up (va_up (va_up (fun _ => none) 0 (some a)) 1 (some b)) 2 (some c)) 3 (some d)) 4 (some e)) 5 (some f) = fun i => ([a, b, c, d, e, f] : List Nat)[i]? := by
  funext i
  match i with
  | 0 => rfl
  | 1 => rfl
  | 2 => rfl
  | 3 => rfl
  | 4 => rfl
  | 5 => rfl
  | n + 6 => simp [va_up]
theorem b4 (a b c d : Nat) : va_up (va_up (va_up (va_up (fun _ => none) 0 (some a)) 1 (some b)) 2 (some c)) 3 (some d) = fun i => ([a, b, c, d] : List Nat)[i]? := by
  funext i
  match i with
  | 0 => rfl
  | 1 => rfl
  | 2 => rfl
  | 3 => rfl
  | n + 4 => simp [va_up]
theorem b3 (a b c : Nat) : va_up (va_up (va_up (fun _ => none) 0 (some a)) 1 (some b)) 2 (some c) = fun i => ([a, b, c] : List Nat)[i]? := by
  funext i
  match i with
  | 0 => rfl
  | 1 => rfl
  | 2 => rfl
  | n + 3 => simp [va_up]
theorem b7 : (fun i => if i < 6 then some (61 + 3 + i) else none) = fun i => ([64, 65, 66, 67, 68, 69] : List Nat)[i]? := by
  funext i
  match i with
  | 0 => rfl
  | 1 => rfl
  | 2 => rfl
  | 3 => rfl
  | 4 => rfl
  | 5 => rfl
  | n + 6 => simp
def mu1 (a : Nat) : Nat → Int32 := if a = 100 then upd (upd (upd (upd (upd (upd (fun _ => 0) 0 (-1)) 1 (-1)) 2 (-1)) 3 (-1)) 4 (-1)) 5 (-1) else if a = 103 then upd (upd (upd (upd (fun _ => 0) 0 (-1)) 1 (-1)) 2 (-1)) 3 (-1) else if a = 112 then upd (upd (upd (fun _ => 0) 0 (-1)) 1 (-1)) 2 (-1) else if 73 ≤ a ∧ a < 99 ∧ a % 2 = 1 then (fun j => if j = 1 then -1 else 0) else fun _ => 0
def mu2 (a : Nat) : Nat → Int64 := if a = 71 then (fun j => if j = 1 then 1 else 0) else if a = 99 then (fun j => if j = 16 then 1 else 0) else fun _ => 0
def mu0 : am_M := (mu1, mu2)
section IN
variable {X : Nat × (Nat → Int32)} {d n a : Nat} {c : Nat → am_C}
theorem k_X0 (ha : a < n) (hc : c a = .inr (0, [.null, .null, .null, .null, .int 0, .int 0, .int 0, .int 0, .int 0])) : ck X (d + 1) kX0_init [.ref (a + 2)] n c (fun n' c' => n' = n + 4 ∧ c' = iB c n a) := by
  have hne : a ≠ n := by omega
  have hne1 : a ≠ n + 1 := by omega
  have hne2 : a ≠ n + 2 := by omega
  have hne3 : a ≠ n + 3 := by omega
  refine ck_of ok_X0_init (L := [.ref (a + 2)]) rfl ?_
  refine tk_al dX0_init_0 rfl ?_
  refine tk_obj dX0_init_1 fo_RX0_3 (by decide) ?_
  refine tk_al dX0_init_4 rfl ?_
  refine tk_bi (v := nI 7) dX0_init_5 (by decide) ?_
  refine tk_newI (N := 7) (n' := n + 1) (r := n + 2) dX0_init_7 fy_int rfl (by decide) rfl rfl ?_
  refine tk_putF (fs := [.null, .null, .null, .null, .int 0, .int 0, .int 0, .int 0, .int 0]) (fs' := [.ref (n + 2), .null, .null, .null, .int 0, .int 0, .int 0, .int 0, .int 0]) dX0_init_9 fq_RX0_9 rfl (by omega) (by first | exact hc | simp [uC, hc, hne, hne1, hne2, hne3]) (Nat.le_of_ble_eq_true rfl) (fun _ => rfl) (fun _ => rfl) rfl ?_
  refine tk_al dX0_init_12 rfl ?_
  refine tk_bi (v := nI 7) dX0_init_13 (by decide) ?_
  refine tk_newI (N := 7) (n' := n + 2) (r := n + 3) dX0_init_15 fy_int rfl (by decide) rfl rfl ?_
  refine tk_putF (fs := [.ref (n + 2), .null, .null, .null, .int 0, .int 0, .int 0, .int 0, .int 0]) (fs' := [.ref (n + 2), .ref (n + 3), .null, .null, .int 0, .int 0, .int 0, .int 0, .int 0]) dX0_init_17 fq_RX0_15 rfl (by omega) (by first | exact hc | simp [uC, hc, hne, hne1, hne2, hne3]) (Nat.le_of_ble_eq_true rfl) (fun _ => rfl) (fun _ => rfl) rfl ?_
  refine tk_al dX0_init_20 rfl ?_
  refine tk_bi (v := nI 7) dX0_init_21 (by decide) ?_
  refine tk_newI (N := 7) (n' := n + 3) (r := n + 4) dX0_init_23 fy_int rfl (by decide) rfl rfl ?_
  refine tk_putF (fs := [.ref (n + 2), .ref (n + 3), .null, .null, .int 0, .int 0, .int 0, .int 0, .int 0]) (fs' := [.ref (n + 2), .ref (n + 3), .ref (n + 4), .null, .int 0, .int 0, .int 0, .int 0, .int 0]) dX0_init_25 fq_RX0_18 rfl (by omega) (by first | exact hc | simp [uC, hc, hne, hne1, hne2, hne3]) (Nat.le_of_ble_eq_true rfl) (fun _ => rfl) (fun _ => rfl) rfl ?_
  refine tk_al dX0_init_28 rfl ?_
  refine tk_bi (v := nI 7) dX0_init_29 (by decide) ?_
  refine tk_newI (N := 7) (n' := n + 4) (r := n + 5) dX0_init_31 fy_int rfl (by decide) rfl rfl ?_
  refine tk_putF (fs := [.ref (n + 2), .ref (n + 3), .ref (n + 4), .null, .int 0, .int 0, .int 0, .int 0, .int 0]) (fs' := [.ref (n + 2), .ref (n + 3), .ref (n + 4), .ref (n + 5), .int 0, .int 0, .int 0, .int 0, .int 0]) dX0_init_33 fq_RX0_21 rfl (by omega) (by first | exact hc | simp [uC, hc, hne, hne1, hne2, hne3]) (Nat.le_of_ble_eq_true rfl) (fun _ => rfl) (fun _ => rfl) rfl ?_
  refine tk_retc (c' := iB c n a) dX0_init_36 rfl ⟨rfl, rfl, rfl⟩ (fun q hq => ?_)
  unfold iB uC
  by_cases e : q = a
  · simp [e]
  · rw [if_neg e]
    by_cases e2 : n ≤ q
    · have : q = n ∨ q = n + 1 ∨ q = n + 2 ∨ q = n + 3 := by omega
      rcases this with rfl | rfl | rfl | rfl <;> simp [e]
    · rw [if_neg e2]
      have n0 : q ≠ n := by omega
      have n1 : q ≠ n + 1 := by omega
      have n2 : q ≠ n + 2 := by omega
      have n3 : q ≠ n + 3 := by omega
      simp [e, n0, n1, n2, n3]
theorem k_X1 (ha : a < n) (hc : c a = .inr (1, [.null, .int 0])) : ck X (d + 1) kX1_init [.ref (a + 2)] n c (fun n' c' => n' = n + 1 ∧ c' = iD c n a) := by
  have hne : a ≠ n := by omega
  have hne1 : a ≠ n + 1 := by omega
  have hne2 : a ≠ n + 2 := by omega
  have hne3 : a ≠ n + 3 := by omega
  refine ck_of ok_X1_init (L := [.ref (a + 2)]) rfl ?_
  refine tk_al dX1_init_0 rfl ?_
  refine tk_obj dX1_init_1 fo_RX1_3 (by decide) ?_
  refine tk_al dX1_init_4 rfl ?_
  refine tk_bi (v := nI 40) dX1_init_5 (by decide) ?_
  refine tk_newI (N := 40) (n' := n + 1) (r := n + 2) dX1_init_7 fy_int rfl (by decide) rfl rfl ?_
  refine tk_putF (fs := [.null, .int 0]) (fs' := [.ref (n + 2), .int 0]) dX1_init_9 fq_RX1_9 rfl (by omega) (by first | exact hc | simp [uC, hc, hne, hne1, hne2, hne3]) (Nat.le_of_ble_eq_true rfl) (fun _ => rfl) (fun _ => rfl) rfl ?_
  refine tk_retc (c' := iD c n a) dX1_init_12 rfl ⟨rfl, rfl, rfl⟩ (fun q hq => ?_)
  unfold iD uC
  by_cases e : q = a
  · simp [e]
  · rw [if_neg e]
    by_cases e2 : n ≤ q
    · have : q = n := by omega
      subst this
      simp [e]
    · rw [if_neg e2]
      have n0 : q ≠ n := by omega
      have n1 : q ≠ n + 1 := by omega
      have n2 : q ≠ n + 2 := by omega
      have n3 : q ≠ n + 3 := by omega
      simp [e, n0, n1, n2, n3]
theorem k_X4 (ha : a < n) (hc : c a = .inr (3, [.null, .int 0])) : ck X (d + 1) kX4_init [.ref (a + 2)] n c (fun n' c' => n' = n + 1 ∧ c' = iR c n a) := by
  have hne : a ≠ n := by omega
  have hne1 : a ≠ n + 1 := by omega
  have hne2 : a ≠ n + 2 := by omega
  have hne3 : a ≠ n + 3 := by omega
  refine ck_of ok_X4_init (L := [.ref (a + 2)]) rfl ?_
  refine tk_al dX4_init_0 rfl ?_
  refine tk_obj dX4_init_1 fo_RX4_3 (by decide) ?_
  refine tk_al dX4_init_4 rfl ?_
  refine tk_bi (v := nI 40) dX4_init_5 (by decide) ?_
  refine tk_newI (N := 40) (n' := n + 1) (r := n + 2) dX4_init_7 fy_int rfl (by decide) rfl rfl ?_
  refine tk_putF (fs := [.null, .int 0]) (fs' := [.ref (n + 2), .int 0]) dX4_init_9 fq_RX4_9 rfl (by omega) (by first | exact hc | simp [uC, hc, hne, hne1, hne2, hne3]) (Nat.le_of_ble_eq_true rfl) (fun _ => rfl) (fun _ => rfl) rfl ?_
  refine tk_al dX4_init_12 rfl ?_
  refine tk_ic (v := -1) dX4_init_13 (by decide) ?_
  refine tk_putI (fs := [.ref (n + 2), .int 0]) (fs' := [.ref (n + 2), .int (-1)]) dX4_init_14 fp_RX4_15 (by omega) (by first | exact hc | simp [uC, hc, hne, hne1, hne2, hne3]) (Nat.le_of_ble_eq_true rfl) rfl ?_
  refine tk_retc (c' := iR c n a) dX4_init_17 rfl ⟨rfl, rfl, rfl⟩ (fun q hq => ?_)
  unfold iR uC
  by_cases e : q = a
  · simp [e]
  · rw [if_neg e]
    by_cases e2 : n ≤ q
    · have : q = n := by omega
      subst this
      simp [e]
    · rw [if_neg e2]
      have n0 : q ≠ n := by omega
      have n1 : q ≠ n + 1 := by omega
      have n2 : q ≠ n + 2 := by omega
      have n3 : q ≠ n + 3 := by omega
      simp [e, n0, n1, n2, n3]
theorem k_X6 (ha : a < n) (hc : c a = .inr (5, [.null, .int 0])) : ck X (d + 1) kX6_init [.ref (a + 2)] n c (fun n' c' => n' = n + 1 ∧ c' = iT c n a) := by
  have hne : a ≠ n := by omega
  have hne1 : a ≠ n + 1 := by omega
  have hne2 : a ≠ n + 2 := by omega
  have hne3 : a ≠ n + 3 := by omega
  refine ck_of ok_X6_init (L := [.ref (a + 2)]) rfl ?_
  refine tk_al dX6_init_0 rfl ?_
  refine tk_obj dX6_init_1 fo_RX6_3 (by decide) ?_
  refine tk_al dX6_init_4 rfl ?_
  refine tk_bi (v := nI 60) dX6_init_5 (by decide) ?_
  refine tk_newB (N := 60) (n' := n + 1) (r := n + 2) dX6_init_7 fy_byte rfl (by decide) rfl rfl ?_
  refine tk_putF (fs := [.null, .int 0]) (fs' := [.ref (n + 2), .int 0]) dX6_init_9 fq_RX6_9 rfl (by omega) (by first | exact hc | simp [uC, hc, hne, hne1, hne2, hne3]) (Nat.le_of_ble_eq_true rfl) (fun _ => rfl) (fun _ => rfl) rfl ?_
  refine tk_al dX6_init_12 rfl ?_
  refine tk_ic (v := -1) dX6_init_13 (by decide) ?_
  refine tk_putI (fs := [.ref (n + 2), .int 0]) (fs' := [.ref (n + 2), .int (-1)]) dX6_init_14 fp_RX6_15 (by omega) (by first | exact hc | simp [uC, hc, hne, hne1, hne2, hne3]) (Nat.le_of_ble_eq_true rfl) rfl ?_
  refine tk_retc (c' := iT c n a) dX6_init_17 rfl ⟨rfl, rfl, rfl⟩ (fun q hq => ?_)
  unfold iT uC
  by_cases e : q = a
  · simp [e]
  · rw [if_neg e]
    by_cases e2 : n ≤ q
    · have : q = n := by omega
      subst this
      simp [e]
    · rw [if_neg e2]
      have n0 : q ≠ n := by omega
      have n1 : q ≠ n + 1 := by omega
      have n2 : q ≠ n + 2 := by omega
      have n3 : q ≠ n + 3 := by omega
      simp [e, n0, n1, n2, n3]
theorem k_X5 (ha : a < n) (hc : c a = .inr (4, [.long 0, .long 0])) : ck X (d + 1) kX5_init [.ref (a + 2)] n c (fun n' c' => n' = n + 0 ∧ c' = iS c n a) := by
  have hne : a ≠ n := by omega
  have hne1 : a ≠ n + 1 := by omega
  have hne2 : a ≠ n + 2 := by omega
  have hne3 : a ≠ n + 3 := by omega
  refine ck_of ok_X5_init (L := [.ref (a + 2)]) rfl ?_
  refine tk_al dX5_init_0 rfl ?_
  refine tk_obj dX5_init_1 fo_RX5_1 (by decide) ?_
  refine tk_al dX5_init_4 rfl ?_
  refine tk_lc (v := 0) dX5_init_5 (by decide) ?_
  refine tk_putJ (fs := [.long 0, .long 0]) (fs' := [.long 0, .long 0]) dX5_init_6 fp_RX5_7 (by omega) (by first | exact hc | simp [uC, hc, hne, hne1, hne2, hne3]) (Nat.le_of_ble_eq_true rfl) rfl ?_
  refine tk_al dX5_init_9 rfl ?_
  refine tk_lc (v := 1) dX5_init_10 (by decide) ?_
  refine tk_putJ (fs := [.long 0, .long 0]) (fs' := [.long 0, .long 1]) dX5_init_11 fp_RX5_13 (by omega) (by first | exact hc | simp [uC, hc, hne, hne1, hne2, hne3]) (Nat.le_of_ble_eq_true rfl) rfl ?_
  refine tk_retc (c' := iS c n a) dX5_init_14 rfl ⟨rfl, rfl, rfl⟩ (fun q hq => ?_)
  unfold iS uC
  by_cases e : q = a
  · simp [e]
  · rw [if_neg e]
    by_cases e2 : n ≤ q
    · omega
    · rw [if_neg e2]
      have n0 : q ≠ n := by omega
      have n1 : q ≠ n + 1 := by omega
      have n2 : q ≠ n + 2 := by omega
      have n3 : q ≠ n + 3 := by omega
      simp [e, n0, n1, n2, n3]
theorem k_X2 (hc : c 26 = .inr (2, [.null, .null, .null, .int 0])) : ck X (d + 2) kX2_init [.ref 28] 27 c (fun n' c' => n' = 60 ∧ c' = iO c) := by
  refine ck_of ok_X2_init (L := [.ref 28, .float 0]) rfl ?_
  refine tk_al dX2_init_0 rfl ?_
  refine tk_obj dX2_init_1 fo_RX2_3 (by decide) ?_
  refine tk_al dX2_init_4 rfl ?_
  refine tk_ic (v := nI 5) dX2_init_5 (by decide) ?_
  refine tk_newI (N := 5) (n' := 28) (r := 29) dX2_init_6 fy_int rfl (by decide) rfl rfl ?_
  refine tk_putF (fs := [.null, .null, .null, .int 0]) (fs' := [.ref 29, .null, .null, .int 0]) dX2_init_8 fq_RX2_9 rfl (by decide) hc (Nat.le_of_ble_eq_true rfl) (fun _ => rfl) (fun _ => rfl) rfl ?_
  refine tk_al dX2_init_11 rfl ?_
  refine tk_ic (v := nI 5) dX2_init_12 (by decide) ?_
  refine tk_newI (N := 5) (n' := 29) (r := 30) dX2_init_13 fy_int rfl (by decide) rfl rfl ?_
  refine tk_putF (fs := [.ref 29, .null, .null, .int 0]) (fs' := [.ref 29, .ref 30, .null, .int 0]) dX2_init_15 fq_RX2_15 rfl (by decide) rfl (Nat.le_of_ble_eq_true rfl) (fun _ => rfl) (fun _ => rfl) rfl ?_
  refine tk_al dX2_init_18 rfl ?_
  refine tk_bi (v := nI 6) dX2_init_19 (by decide) ?_
  refine tk_anew (t := 6) (N := 6) (n' := 30) (r := 31) dX2_init_21 rfl (by decide) fc_RX2_18 rfl (by decide) rfl rfl ?_
  refine tk_putF (fs := [.ref 29, .ref 30, .null, .int 0]) (fs' := [.ref 29, .ref 30, .ref 31, .int 0]) dX2_init_24 fq_RX2_20 rfl (by decide) rfl (Nat.le_of_ble_eq_true rfl) (fun _ => rfl) (fun _ => rfl) rfl ?_
  refine tk_ic (v := nI 0) dX2_init_27 (by decide) ?_
  refine tk_is (L' := [.ref 28, .int (nI 0)]) dX2_init_28 (by decide) rfl ?_
  refine tk_il dX2_init_29 rfl ?_
  refine tk_ic (v := nI 5) dX2_init_30 (by decide) ?_
  refine tk_gtF dX2_init_31 (by decide) ?_
  refine tk_al dX2_init_34 rfl ?_
  refine tk_getf dX2_init_35 fg_RX2_20 (by decide) rfl rfl ?_
  refine tk_il dX2_init_38 rfl ?_
  refine tk_new (n' := 31) (r := 32) dX2_init_39 fn_RX2_18 rfl rfl ?_
  refine tk_dup dX2_init_42 rfl ?_
  refine tk_callIN (As := []) dX2_init_43 fm_RX2_24 rfl rfl (by decide) (k_X0 (a := 30) (by decide) rfl) (fun n1 c1 e1 e2 => ?_)
  subst e1; subst e2
  refine tk_aast (j := 0) dX2_init_46 (by decide) rfl (by decide) (by decide) rfl ⟨_, _, _, _, am_k0, rfl⟩ rfl (by decide) (by decide) ?_
  refine tk_ii (v := nI 1) (L' := [.ref 28, .int (nI 1)]) dX2_init_47 rfl (by decide) (by decide) rfl ?_
  refine tk_goto (tgt := 29) dX2_init_50 (by decide) ?_
  refine tk_il dX2_init_29 rfl ?_
  refine tk_ic (v := nI 5) dX2_init_30 (by decide) ?_
  refine tk_gtF dX2_init_31 (by decide) ?_
  refine tk_al dX2_init_34 rfl ?_
  refine tk_getf dX2_init_35 fg_RX2_20 (by decide) rfl rfl ?_
  refine tk_il dX2_init_38 rfl ?_
  refine tk_new (n' := 36) (r := 37) dX2_init_39 fn_RX2_18 rfl rfl ?_
  refine tk_dup dX2_init_42 rfl ?_
  refine tk_callIN (As := []) dX2_init_43 fm_RX2_24 rfl rfl (by decide) (k_X0 (a := 35) (by decide) rfl) (fun n1 c1 e1 e2 => ?_)
  subst e1; subst e2
  refine tk_aast (j := 1) dX2_init_46 (by decide) rfl (by decide) (by decide) rfl ⟨_, _, _, _, am_k0, rfl⟩ rfl (by decide) (by decide) ?_
  refine tk_ii (v := nI 2) (L' := [.ref 28, .int (nI 2)]) dX2_init_47 rfl (by decide) (by decide) rfl ?_
  refine tk_goto (tgt := 29) dX2_init_50 (by decide) ?_
  refine tk_il dX2_init_29 rfl ?_
  refine tk_ic (v := nI 5) dX2_init_30 (by decide) ?_
  refine tk_gtF dX2_init_31 (by decide) ?_
  refine tk_al dX2_init_34 rfl ?_
  refine tk_getf dX2_init_35 fg_RX2_20 (by decide) rfl rfl ?_
  refine tk_il dX2_init_38 rfl ?_
  refine tk_new (n' := 41) (r := 42) dX2_init_39 fn_RX2_18 rfl rfl ?_
  refine tk_dup dX2_init_42 rfl ?_
  refine tk_callIN (As := []) dX2_init_43 fm_RX2_24 rfl rfl (by decide) (k_X0 (a := 40) (by decide) rfl) (fun n1 c1 e1 e2 => ?_)
  subst e1; subst e2
  refine tk_aast (j := 2) dX2_init_46 (by decide) rfl (by decide) (by decide) rfl ⟨_, _, _, _, am_k0, rfl⟩ rfl (by decide) (by decide) ?_
  refine tk_ii (v := nI 3) (L' := [.ref 28, .int (nI 3)]) dX2_init_47 rfl (by decide) (by decide) rfl ?_
  refine tk_goto (tgt := 29) dX2_init_50 (by decide) ?_
  refine tk_il dX2_init_29 rfl ?_
  refine tk_ic (v := nI 5) dX2_init_30 (by decide) ?_
  refine tk_gtF dX2_init_31 (by decide) ?_
  refine tk_al dX2_init_34 rfl ?_
  refine tk_getf dX2_init_35 fg_RX2_20 (by decide) rfl rfl ?_
  refine tk_il dX2_init_38 rfl ?_
  refine tk_new (n' := 46) (r := 47) dX2_init_39 fn_RX2_18 rfl rfl ?_
  refine tk_dup dX2_init_42 rfl ?_
  refine tk_callIN (As := []) dX2_init_43 fm_RX2_24 rfl rfl (by decide) (k_X0 (a := 45) (by decide) rfl) (fun n1 c1 e1 e2 => ?_)
  subst e1; subst e2
  refine tk_aast (j := 3) dX2_init_46 (by decide) rfl (by decide) (by decide) rfl ⟨_, _, _, _, am_k0, rfl⟩ rfl (by decide) (by decide) ?_
  refine tk_ii (v := nI 4) (L' := [.ref 28, .int (nI 4)]) dX2_init_47 rfl (by decide) (by decide) rfl ?_
  refine tk_goto (tgt := 29) dX2_init_50 (by decide) ?_
  refine tk_il dX2_init_29 rfl ?_
  refine tk_ic (v := nI 5) dX2_init_30 (by decide) ?_
  refine tk_gtF dX2_init_31 (by decide) ?_
  refine tk_al dX2_init_34 rfl ?_
  refine tk_getf dX2_init_35 fg_RX2_20 (by decide) rfl rfl ?_
  refine tk_il dX2_init_38 rfl ?_
  refine tk_new (n' := 51) (r := 52) dX2_init_39 fn_RX2_18 rfl rfl ?_
  refine tk_dup dX2_init_42 rfl ?_
  refine tk_callIN (As := []) dX2_init_43 fm_RX2_24 rfl rfl (by decide) (k_X0 (a := 50) (by decide) rfl) (fun n1 c1 e1 e2 => ?_)
  subst e1; subst e2
  refine tk_aast (j := 4) dX2_init_46 (by decide) rfl (by decide) (by decide) rfl ⟨_, _, _, _, am_k0, rfl⟩ rfl (by decide) (by decide) ?_
  refine tk_ii (v := nI 5) (L' := [.ref 28, .int (nI 5)]) dX2_init_47 rfl (by decide) (by decide) rfl ?_
  refine tk_goto (tgt := 29) dX2_init_50 (by decide) ?_
  refine tk_il dX2_init_29 rfl ?_
  refine tk_ic (v := nI 5) dX2_init_30 (by decide) ?_
  refine tk_gtF dX2_init_31 (by decide) ?_
  refine tk_al dX2_init_34 rfl ?_
  refine tk_getf dX2_init_35 fg_RX2_20 (by decide) rfl rfl ?_
  refine tk_il dX2_init_38 rfl ?_
  refine tk_new (n' := 56) (r := 57) dX2_init_39 fn_RX2_18 rfl rfl ?_
  refine tk_dup dX2_init_42 rfl ?_
  refine tk_callIN (As := []) dX2_init_43 fm_RX2_24 rfl rfl (by decide) (k_X0 (a := 55) (by decide) rfl) (fun n1 c1 e1 e2 => ?_)
  subst e1; subst e2
  refine tk_aast (j := 5) dX2_init_46 (by decide) rfl (by decide) (by decide) rfl ⟨_, _, _, _, am_k0, rfl⟩ rfl (by decide) (by decide) ?_
  refine tk_ii (v := nI 6) (L' := [.ref 28, .int (nI 6)]) dX2_init_47 rfl (by decide) (by decide) rfl ?_
  refine tk_goto (tgt := 29) dX2_init_50 (by decide) ?_
  refine tk_il dX2_init_29 rfl ?_
  refine tk_ic (v := nI 5) dX2_init_30 (by decide) ?_
  refine tk_gtT (tgt := 53) dX2_init_31 (by decide) (by decide) ?_
  refine tk_retc (c' := iO c) dX2_init_53 rfl ⟨rfl, rfl, rfl⟩ (fun q hq => ?_)
  match q, hq with
  | 0, _ => rfl
  | 1, _ => rfl
  | 2, _ => rfl
  | 3, _ => rfl
  | 4, _ => rfl
  | 5, _ => rfl
  | 6, _ => rfl
  | 7, _ => rfl
  | 8, _ => rfl
  | 9, _ => rfl
  | 10, _ => rfl
  | 11, _ => rfl
  | 12, _ => rfl
  | 13, _ => rfl
  | 14, _ => rfl
  | 15, _ => rfl
  | 16, _ => rfl
  | 17, _ => rfl
  | 18, _ => rfl
  | 19, _ => rfl
  | 20, _ => rfl
  | 21, _ => rfl
  | 22, _ => rfl
  | 23, _ => rfl
  | 24, _ => rfl
  | 25, _ => rfl
  | 26, _ => rfl
  | 27, _ => rfl
  | 28, _ => rfl
  | 29, _ => exact congrArg (cR 6 6) (b6 _ _ _ _ _ _)
  | 30, _ => rfl
  | 31, _ => rfl
  | 32, _ => rfl
  | 33, _ => rfl
  | 34, _ => rfl
  | 35, _ => rfl
  | 36, _ => rfl
  | 37, _ => rfl
  | 38, _ => rfl
  | 39, _ => rfl
  | 40, _ => rfl
  | 41, _ => rfl
  | 42, _ => rfl
  | 43, _ => rfl
  | 44, _ => rfl
  | 45, _ => rfl
  | 46, _ => rfl
  | 47, _ => rfl
  | 48, _ => rfl
  | 49, _ => rfl
  | 50, _ => rfl
  | 51, _ => rfl
  | 52, _ => rfl
  | 53, _ => rfl
  | 54, _ => rfl
  | 55, _ => rfl
  | 56, _ => rfl
  | 57, _ => rfl
  | 58, _ => rfl
  | 59, _ => rfl
  | q + 60, hq => exact absurd hq (by omega)
theorem k_X7 (hc : c 0 = .inr (6, [.null, .null, .null, .null, .null, .null, .null, .null, .null, .null, .null, .null, .null, .null, .int 0, .int 0])) : ck X (d + 3) kX7_init [.ref 2] 1 c (fun n' c' => n' = 97 ∧ ∀ q, q < 97 → c' q = am_co (shp (q + 2)) mu0 (q + 2)) := by
  refine ck_of ok_X7_init (L := [.ref 2, .float 0]) rfl ?_
  refine tk_al dX7_init_0 rfl ?_
  refine tk_obj dX7_init_1 fo_RX7_1 (by decide) ?_
  refine tk_al dX7_init_4 rfl ?_
  refine tk_bi (v := nI 6) dX7_init_5 (by decide) ?_
  refine tk_anew (t := 3) (N := 6) (n' := 2) (r := 3) dX7_init_7 rfl (by decide) fc_RX7_9 rfl (by decide) rfl rfl ?_
  refine tk_putF (fs := [.null, .null, .null, .null, .null, .null, .null, .null, .null, .null, .null, .null, .null, .null, .int 0, .int 0]) (fs' := [.ref 3, .null, .null, .null, .null, .null, .null, .null, .null, .null, .null, .null, .null, .null, .int 0, .int 0]) dX7_init_10 fq_RX7_11 rfl (by decide) hc (Nat.le_of_ble_eq_true rfl) (fun _ => rfl) (fun _ => rfl) rfl ?_
  refine tk_al dX7_init_13 rfl ?_
  refine tk_ic (v := nI 4) dX7_init_14 (by decide) ?_
  refine tk_anew (t := 4) (N := 4) (n' := 3) (r := 4) dX7_init_15 rfl (by decide) fc_RX7_15 rfl (by decide) rfl rfl ?_
  refine tk_putF (fs := [.ref 3, .null, .null, .null, .null, .null, .null, .null, .null, .null, .null, .null, .null, .null, .int 0, .int 0]) (fs' := [.ref 3, .ref 4, .null, .null, .null, .null, .null, .null, .null, .null, .null, .null, .null, .null, .int 0, .int 0]) dX7_init_18 fq_RX7_17 rfl (by decide) rfl (Nat.le_of_ble_eq_true rfl) (fun _ => rfl) (fun _ => rfl) rfl ?_
  refine tk_al dX7_init_21 rfl ?_
  refine tk_new (n' := 4) (r := 5) dX7_init_22 fn_RX7_21 rfl rfl ?_
  refine tk_dup dX7_init_25 rfl ?_
  refine tk_callIN (As := []) dX7_init_26 fm_RX7_23 rfl rfl (by decide) (k_X0 (a := 3) (by decide) rfl) (fun n1 c1 e1 e2 => ?_)
  subst e1; subst e2
  refine tk_putF (fs := [.ref 3, .ref 4, .null, .null, .null, .null, .null, .null, .null, .null, .null, .null, .null, .null, .int 0, .int 0]) (fs' := [.ref 3, .ref 4, .ref 5, .null, .null, .null, .null, .null, .null, .null, .null, .null, .null, .null, .int 0, .int 0]) dX7_init_29 fq_RX7_24 rfl (by decide) rfl (Nat.le_of_ble_eq_true rfl) (fun _ => rfl) (fun _ => rfl) rfl ?_
  refine tk_al dX7_init_32 rfl ?_
  refine tk_new (n' := 9) (r := 10) dX7_init_33 fn_RX7_21 rfl rfl ?_
  refine tk_dup dX7_init_36 rfl ?_
  refine tk_callIN (As := []) dX7_init_37 fm_RX7_23 rfl rfl (by decide) (k_X0 (a := 8) (by decide) rfl) (fun n1 c1 e1 e2 => ?_)
  subst e1; subst e2
  refine tk_putF (fs := [.ref 3, .ref 4, .ref 5, .null, .null, .null, .null, .null, .null, .null, .null, .null, .null, .null, .int 0, .int 0]) (fs' := [.ref 3, .ref 4, .ref 5, .ref 10, .null, .null, .null, .null, .null, .null, .null, .null, .null, .null, .int 0, .int 0]) dX7_init_40 fq_RX7_28 rfl (by decide) rfl (Nat.le_of_ble_eq_true rfl) (fun _ => rfl) (fun _ => rfl) rfl ?_
  refine tk_al dX7_init_43 rfl ?_
  refine tk_new (n' := 14) (r := 15) dX7_init_44 fn_RX7_21 rfl rfl ?_
  refine tk_dup dX7_init_47 rfl ?_
  refine tk_callIN (As := []) dX7_init_48 fm_RX7_23 rfl rfl (by decide) (k_X0 (a := 13) (by decide) rfl) (fun n1 c1 e1 e2 => ?_)
  subst e1; subst e2
  refine tk_putF (fs := [.ref 3, .ref 4, .ref 5, .ref 10, .null, .null, .null, .null, .null, .null, .null, .null, .null, .null, .int 0, .int 0]) (fs' := [.ref 3, .ref 4, .ref 5, .ref 10, .ref 15, .null, .null, .null, .null, .null, .null, .null, .null, .null, .int 0, .int 0]) dX7_init_51 fq_RX7_31 rfl (by decide) rfl (Nat.le_of_ble_eq_true rfl) (fun _ => rfl) (fun _ => rfl) rfl ?_
  refine tk_al dX7_init_54 rfl ?_
  refine tk_new (n' := 19) (r := 20) dX7_init_55 fn_RX7_21 rfl rfl ?_
  refine tk_dup dX7_init_58 rfl ?_
  refine tk_callIN (As := []) dX7_init_59 fm_RX7_23 rfl rfl (by decide) (k_X0 (a := 18) (by decide) rfl) (fun n1 c1 e1 e2 => ?_)
  subst e1; subst e2
  refine tk_putF (fs := [.ref 3, .ref 4, .ref 5, .ref 10, .ref 15, .null, .null, .null, .null, .null, .null, .null, .null, .null, .int 0, .int 0]) (fs' := [.ref 3, .ref 4, .ref 5, .ref 10, .ref 15, .ref 20, .null, .null, .null, .null, .null, .null, .null, .null, .int 0, .int 0]) dX7_init_62 fq_RX7_34 rfl (by decide) rfl (Nat.le_of_ble_eq_true rfl) (fun _ => rfl) (fun _ => rfl) rfl ?_
  refine tk_al dX7_init_65 rfl ?_
  refine tk_new (n' := 24) (r := 25) dX7_init_66 fn_RX7_37 rfl rfl ?_
  refine tk_dup dX7_init_69 rfl ?_
  refine tk_callIN (As := []) dX7_init_70 fm_RX7_39 rfl rfl (by decide) (k_X1 (a := 23) (by decide) rfl) (fun n1 c1 e1 e2 => ?_)
  subst e1; subst e2
  refine tk_putF (fs := [.ref 3, .ref 4, .ref 5, .ref 10, .ref 15, .ref 20, .null, .null, .null, .null, .null, .null, .null, .null, .int 0, .int 0]) (fs' := [.ref 3, .ref 4, .ref 5, .ref 10, .ref 15, .ref 20, .ref 25, .null, .null, .null, .null, .null, .null, .null, .int 0, .int 0]) dX7_init_73 fq_RX7_40 rfl (by decide) rfl (Nat.le_of_ble_eq_true rfl) (fun _ => rfl) (fun _ => rfl) rfl ?_
  refine tk_al dX7_init_76 rfl ?_
  refine tk_ic (v := nI 3) dX7_init_77 (by decide) ?_
  refine tk_anew (t := 5) (N := 3) (n' := 26) (r := 27) dX7_init_78 rfl (by decide) fc_RX7_37 rfl (by decide) rfl rfl ?_
  refine tk_putF (fs := [.ref 3, .ref 4, .ref 5, .ref 10, .ref 15, .ref 20, .ref 25, .null, .null, .null, .null, .null, .null, .null, .int 0, .int 0]) (fs' := [.ref 3, .ref 4, .ref 5, .ref 10, .ref 15, .ref 20, .ref 25, .ref 27, .null, .null, .null, .null, .null, .null, .int 0, .int 0]) dX7_init_81 fq_RX7_44 rfl (by decide) rfl (Nat.le_of_ble_eq_true rfl) (fun _ => rfl) (fun _ => rfl) rfl ?_
  refine tk_al dX7_init_84 rfl ?_
  refine tk_new (n' := 27) (r := 28) dX7_init_85 fn_RX7_48 rfl rfl ?_
  refine tk_dup dX7_init_88 rfl ?_
  refine tk_callI (As := []) dX7_init_89 fm_RX7_50 rfl rfl (by decide) (k_X2 (d := d) rfl) (fun n1 c1 e1 e2 => ?_)
  subst e1; subst e2
  refine tk_putF (fs := [.ref 3, .ref 4, .ref 5, .ref 10, .ref 15, .ref 20, .ref 25, .ref 27, .null, .null, .null, .null, .null, .null, .int 0, .int 0]) (fs' := [.ref 3, .ref 4, .ref 5, .ref 10, .ref 15, .ref 20, .ref 25, .ref 27, .ref 28, .null, .null, .null, .null, .null, .int 0, .int 0]) dX7_init_92 fq_RX7_51 rfl (by decide) rfl (Nat.le_of_ble_eq_true rfl) (fun _ => rfl) (fun _ => rfl) rfl ?_
  refine tk_al dX7_init_95 rfl ?_
  refine tk_bi (v := nI 61) dX7_init_96 (by decide) ?_
  refine tk_newI (N := 61) (n' := 61) (r := 62) dX7_init_98 fy_int rfl (by decide) rfl rfl ?_
  refine tk_putF (fs := [.ref 3, .ref 4, .ref 5, .ref 10, .ref 15, .ref 20, .ref 25, .ref 27, .ref 28, .null, .null, .null, .null, .null, .int 0, .int 0]) (fs' := [.ref 3, .ref 4, .ref 5, .ref 10, .ref 15, .ref 20, .ref 25, .ref 27, .ref 28, .ref 62, .null, .null, .null, .null, .int 0, .int 0]) dX7_init_100 fq_RX7_55 rfl (by decide) rfl (Nat.le_of_ble_eq_true rfl) (fun _ => rfl) (fun _ => rfl) rfl ?_
  refine tk_al dX7_init_103 rfl ?_
  refine tk_bi (v := nI 6) dX7_init_104 (by decide) ?_
  refine tk_bi (v := nI 21) dX7_init_106 (by decide) ?_
  refine tk_mna (N := 6) (M := 21) (n' := 68) (r := 63) dX7_init_108 fc_RX7_59 fy_int rfl rfl (by decide) (by decide) rfl rfl ?_
  refine tk_putF (fs := [.ref 3, .ref 4, .ref 5, .ref 10, .ref 15, .ref 20, .ref 25, .ref 27, .ref 28, .ref 62, .null, .null, .null, .null, .int 0, .int 0]) (fs' := [.ref 3, .ref 4, .ref 5, .ref 10, .ref 15, .ref 20, .ref 25, .ref 27, .ref 28, .ref 62, .ref 63, .null, .null, .null, .int 0, .int 0]) dX7_init_112 fq_RX7_61 rfl (by decide) rfl (Nat.le_of_ble_eq_true rfl) (fun _ => rfl) (fun _ => rfl) rfl ?_
  refine tk_al dX7_init_115 rfl ?_
  refine tk_bi (v := nI 8) dX7_init_116 (by decide) ?_
  refine tk_newJ (N := 8) (n' := 69) (r := 70) dX7_init_118 fy_long rfl (by decide) rfl rfl ?_
  refine tk_putF (fs := [.ref 3, .ref 4, .ref 5, .ref 10, .ref 15, .ref 20, .ref 25, .ref 27, .ref 28, .ref 62, .ref 63, .null, .null, .null, .int 0, .int 0]) (fs' := [.ref 3, .ref 4, .ref 5, .ref 10, .ref 15, .ref 20, .ref 25, .ref 27, .ref 28, .ref 62, .ref 63, .ref 70, .null, .null, .int 0, .int 0]) dX7_init_120 fq_RX7_64 rfl (by decide) rfl (Nat.le_of_ble_eq_true rfl) (fun _ => rfl) (fun _ => rfl) rfl ?_
  refine tk_al dX7_init_123 rfl ?_
  refine tk_new (n' := 70) (r := 71) dX7_init_124 fn_RX7_68 rfl rfl ?_
  refine tk_dup dX7_init_127 rfl ?_
  refine tk_callIN (As := []) dX7_init_128 fm_RX7_70 rfl rfl (by decide) (k_X5 (a := 69) (by decide) rfl) (fun n1 c1 e1 e2 => ?_)
  subst e1; subst e2
  refine tk_putF (fs := [.ref 3, .ref 4, .ref 5, .ref 10, .ref 15, .ref 20, .ref 25, .ref 27, .ref 28, .ref 62, .ref 63, .ref 70, .null, .null, .int 0, .int 0]) (fs' := [.ref 3, .ref 4, .ref 5, .ref 10, .ref 15, .ref 20, .ref 25, .ref 27, .ref 28, .ref 62, .ref 63, .ref 70, .ref 71, .null, .int 0, .int 0]) dX7_init_131 fq_RX7_71 rfl (by decide) rfl (Nat.le_of_ble_eq_true rfl) (fun _ => rfl) (fun _ => rfl) rfl ?_
  refine tk_al dX7_init_134 rfl ?_
  refine tk_bi (v := nI 6) dX7_init_135 (by decide) ?_
  refine tk_newI (N := 6) (n' := 71) (r := 72) dX7_init_137 fy_int rfl (by decide) rfl rfl ?_
  refine tk_putF (fs := [.ref 3, .ref 4, .ref 5, .ref 10, .ref 15, .ref 20, .ref 25, .ref 27, .ref 28, .ref 62, .ref 63, .ref 70, .ref 71, .null, .int 0, .int 0]) (fs' := [.ref 3, .ref 4, .ref 5, .ref 10, .ref 15, .ref 20, .ref 25, .ref 27, .ref 28, .ref 62, .ref 63, .ref 70, .ref 71, .ref 72, .int 0, .int 0]) dX7_init_139 fq_RX7_75 rfl (by decide) rfl (Nat.le_of_ble_eq_true rfl) (fun _ => rfl) (fun _ => rfl) rfl ?_
  refine tk_ic (v := nI 0) dX7_init_142 (by decide) ?_
  refine tk_is (L' := [.ref 2, .int (nI 0)]) dX7_init_143 (by decide) rfl ?_
  refine tk_il dX7_init_144 rfl ?_
  refine tk_bi (v := nI 6) dX7_init_145 (by decide) ?_
  refine tk_geF dX7_init_147 (by decide) ?_
  refine tk_al dX7_init_150 rfl ?_
  refine tk_getf dX7_init_151 fg_RX7_11 (by decide) rfl rfl ?_
  refine tk_il dX7_init_154 rfl ?_
  refine tk_new (n' := 72) (r := 73) dX7_init_155 fn_RX7_9 rfl rfl ?_
  refine tk_dup dX7_init_158 rfl ?_
  refine tk_callIN (As := []) dX7_init_159 fm_RX7_78 rfl rfl (by decide) (k_X4 (a := 71) (by decide) rfl) (fun n1 c1 e1 e2 => ?_)
  subst e1; subst e2
  refine tk_aast (j := 0) dX7_init_162 (by decide) rfl (by decide) (by decide) rfl ⟨_, _, _, _, am_k3, rfl⟩ rfl (by decide) (by decide) ?_
  refine tk_ii (v := nI 1) (L' := [.ref 2, .int (nI 1)]) dX7_init_163 rfl (by decide) (by decide) rfl ?_
  refine tk_goto (tgt := 144) dX7_init_166 (by decide) ?_
  refine tk_il dX7_init_144 rfl ?_
  refine tk_bi (v := nI 6) dX7_init_145 (by decide) ?_
  refine tk_geF dX7_init_147 (by decide) ?_
  refine tk_al dX7_init_150 rfl ?_
  refine tk_getf dX7_init_151 fg_RX7_11 (by decide) rfl rfl ?_
  refine tk_il dX7_init_154 rfl ?_
  refine tk_new (n' := 74) (r := 75) dX7_init_155 fn_RX7_9 rfl rfl ?_
  refine tk_dup dX7_init_158 rfl ?_
  refine tk_callIN (As := []) dX7_init_159 fm_RX7_78 rfl rfl (by decide) (k_X4 (a := 73) (by decide) rfl) (fun n1 c1 e1 e2 => ?_)
  subst e1; subst e2
  refine tk_aast (j := 1) dX7_init_162 (by decide) rfl (by decide) (by decide) rfl ⟨_, _, _, _, am_k3, rfl⟩ rfl (by decide) (by decide) ?_
  refine tk_ii (v := nI 2) (L' := [.ref 2, .int (nI 2)]) dX7_init_163 rfl (by decide) (by decide) rfl ?_
  refine tk_goto (tgt := 144) dX7_init_166 (by decide) ?_
  refine tk_il dX7_init_144 rfl ?_
  refine tk_bi (v := nI 6) dX7_init_145 (by decide) ?_
  refine tk_geF dX7_init_147 (by decide) ?_
  refine tk_al dX7_init_150 rfl ?_
  refine tk_getf dX7_init_151 fg_RX7_11 (by decide) rfl rfl ?_
  refine tk_il dX7_init_154 rfl ?_
  refine tk_new (n' := 76) (r := 77) dX7_init_155 fn_RX7_9 rfl rfl ?_
  refine tk_dup dX7_init_158 rfl ?_
  refine tk_callIN (As := []) dX7_init_159 fm_RX7_78 rfl rfl (by decide) (k_X4 (a := 75) (by decide) rfl) (fun n1 c1 e1 e2 => ?_)
  subst e1; subst e2
  refine tk_aast (j := 2) dX7_init_162 (by decide) rfl (by decide) (by decide) rfl ⟨_, _, _, _, am_k3, rfl⟩ rfl (by decide) (by decide) ?_
  refine tk_ii (v := nI 3) (L' := [.ref 2, .int (nI 3)]) dX7_init_163 rfl (by decide) (by decide) rfl ?_
  refine tk_goto (tgt := 144) dX7_init_166 (by decide) ?_
  refine tk_il dX7_init_144 rfl ?_
  refine tk_bi (v := nI 6) dX7_init_145 (by decide) ?_
  refine tk_geF dX7_init_147 (by decide) ?_
  refine tk_al dX7_init_150 rfl ?_
  refine tk_getf dX7_init_151 fg_RX7_11 (by decide) rfl rfl ?_
  refine tk_il dX7_init_154 rfl ?_
  refine tk_new (n' := 78) (r := 79) dX7_init_155 fn_RX7_9 rfl rfl ?_
  refine tk_dup dX7_init_158 rfl ?_
  refine tk_callIN (As := []) dX7_init_159 fm_RX7_78 rfl rfl (by decide) (k_X4 (a := 77) (by decide) rfl) (fun n1 c1 e1 e2 => ?_)
  subst e1; subst e2
  refine tk_aast (j := 3) dX7_init_162 (by decide) rfl (by decide) (by decide) rfl ⟨_, _, _, _, am_k3, rfl⟩ rfl (by decide) (by decide) ?_
  refine tk_ii (v := nI 4) (L' := [.ref 2, .int (nI 4)]) dX7_init_163 rfl (by decide) (by decide) rfl ?_
  refine tk_goto (tgt := 144) dX7_init_166 (by decide) ?_
  refine tk_il dX7_init_144 rfl ?_
  refine tk_bi (v := nI 6) dX7_init_145 (by decide) ?_
  refine tk_geF dX7_init_147 (by decide) ?_
  refine tk_al dX7_init_150 rfl ?_
  refine tk_getf dX7_init_151 fg_RX7_11 (by decide) rfl rfl ?_
  refine tk_il dX7_init_154 rfl ?_
  refine tk_new (n' := 80) (r := 81) dX7_init_155 fn_RX7_9 rfl rfl ?_
  refine tk_dup dX7_init_158 rfl ?_
  refine tk_callIN (As := []) dX7_init_159 fm_RX7_78 rfl rfl (by decide) (k_X4 (a := 79) (by decide) rfl) (fun n1 c1 e1 e2 => ?_)
  subst e1; subst e2
  refine tk_aast (j := 4) dX7_init_162 (by decide) rfl (by decide) (by decide) rfl ⟨_, _, _, _, am_k3, rfl⟩ rfl (by decide) (by decide) ?_
  refine tk_ii (v := nI 5) (L' := [.ref 2, .int (nI 5)]) dX7_init_163 rfl (by decide) (by decide) rfl ?_
  refine tk_goto (tgt := 144) dX7_init_166 (by decide) ?_
  refine tk_il dX7_init_144 rfl ?_
  refine tk_bi (v := nI 6) dX7_init_145 (by decide) ?_
  refine tk_geF dX7_init_147 (by decide) ?_
  refine tk_al dX7_init_150 rfl ?_
  refine tk_getf dX7_init_151 fg_RX7_11 (by decide) rfl rfl ?_
  refine tk_il dX7_init_154 rfl ?_
  refine tk_new (n' := 82) (r := 83) dX7_init_155 fn_RX7_9 rfl rfl ?_
  refine tk_dup dX7_init_158 rfl ?_
  refine tk_callIN (As := []) dX7_init_159 fm_RX7_78 rfl rfl (by decide) (k_X4 (a := 81) (by decide) rfl) (fun n1 c1 e1 e2 => ?_)
  subst e1; subst e2
  refine tk_aast (j := 5) dX7_init_162 (by decide) rfl (by decide) (by decide) rfl ⟨_, _, _, _, am_k3, rfl⟩ rfl (by decide) (by decide) ?_
  refine tk_ii (v := nI 6) (L' := [.ref 2, .int (nI 6)]) dX7_init_163 rfl (by decide) (by decide) rfl ?_
  refine tk_goto (tgt := 144) dX7_init_166 (by decide) ?_
  refine tk_il dX7_init_144 rfl ?_
  refine tk_bi (v := nI 6) dX7_init_145 (by decide) ?_
  refine tk_geT (tgt := 169) dX7_init_147 (by decide) (by decide) ?_
  refine tk_ic (v := nI 0) dX7_init_169 (by decide) ?_
  refine tk_is (L' := [.ref 2, .int (nI 0)]) dX7_init_170 (by decide) rfl ?_
  refine tk_il dX7_init_171 rfl ?_
  refine tk_ic (v := nI 4) dX7_init_172 (by decide) ?_
  refine tk_geF dX7_init_173 (by decide) ?_
  refine tk_al dX7_init_176 rfl ?_
  refine tk_getf dX7_init_177 fg_RX7_17 (by decide) rfl rfl ?_
  refine tk_il dX7_init_180 rfl ?_
  refine tk_new (n' := 84) (r := 85) dX7_init_181 fn_RX7_15 rfl rfl ?_
  refine tk_dup dX7_init_184 rfl ?_
  refine tk_callIN (As := []) dX7_init_185 fm_RX7_79 rfl rfl (by decide) (k_X6 (a := 83) (by decide) rfl) (fun n1 c1 e1 e2 => ?_)
  subst e1; subst e2
  refine tk_aast (j := 0) dX7_init_188 (by decide) rfl (by decide) (by decide) rfl ⟨_, _, _, _, am_k5, rfl⟩ rfl (by decide) (by decide) ?_
  refine tk_ii (v := nI 1) (L' := [.ref 2, .int (nI 1)]) dX7_init_189 rfl (by decide) (by decide) rfl ?_
  refine tk_goto (tgt := 171) dX7_init_192 (by decide) ?_
  refine tk_il dX7_init_171 rfl ?_
  refine tk_ic (v := nI 4) dX7_init_172 (by decide) ?_
  refine tk_geF dX7_init_173 (by decide) ?_
  refine tk_al dX7_init_176 rfl ?_
  refine tk_getf dX7_init_177 fg_RX7_17 (by decide) rfl rfl ?_
  refine tk_il dX7_init_180 rfl ?_
  refine tk_new (n' := 86) (r := 87) dX7_init_181 fn_RX7_15 rfl rfl ?_
  refine tk_dup dX7_init_184 rfl ?_
  refine tk_callIN (As := []) dX7_init_185 fm_RX7_79 rfl rfl (by decide) (k_X6 (a := 85) (by decide) rfl) (fun n1 c1 e1 e2 => ?_)
  subst e1; subst e2
  refine tk_aast (j := 1) dX7_init_188 (by decide) rfl (by decide) (by decide) rfl ⟨_, _, _, _, am_k5, rfl⟩ rfl (by decide) (by decide) ?_
  refine tk_ii (v := nI 2) (L' := [.ref 2, .int (nI 2)]) dX7_init_189 rfl (by decide) (by decide) rfl ?_
  refine tk_goto (tgt := 171) dX7_init_192 (by decide) ?_
  refine tk_il dX7_init_171 rfl ?_
  refine tk_ic (v := nI 4) dX7_init_172 (by decide) ?_
  refine tk_geF dX7_init_173 (by decide) ?_
  refine tk_al dX7_init_176 rfl ?_
  refine tk_getf dX7_init_177 fg_RX7_17 (by decide) rfl rfl ?_
  refine tk_il dX7_init_180 rfl ?_
  refine tk_new (n' := 88) (r := 89) dX7_init_181 fn_RX7_15 rfl rfl ?_
  refine tk_dup dX7_init_184 rfl ?_
  refine tk_callIN (As := []) dX7_init_185 fm_RX7_79 rfl rfl (by decide) (k_X6 (a := 87) (by decide) rfl) (fun n1 c1 e1 e2 => ?_)
  subst e1; subst e2
  refine tk_aast (j := 2) dX7_init_188 (by decide) rfl (by decide) (by decide) rfl ⟨_, _, _, _, am_k5, rfl⟩ rfl (by decide) (by decide) ?_
  refine tk_ii (v := nI 3) (L' := [.ref 2, .int (nI 3)]) dX7_init_189 rfl (by decide) (by decide) rfl ?_
  refine tk_goto (tgt := 171) dX7_init_192 (by decide) ?_
  refine tk_il dX7_init_171 rfl ?_
  refine tk_ic (v := nI 4) dX7_init_172 (by decide) ?_
  refine tk_geF dX7_init_173 (by decide) ?_
  refine tk_al dX7_init_176 rfl ?_
  refine tk_getf dX7_init_177 fg_RX7_17 (by decide) rfl rfl ?_
  refine tk_il dX7_init_180 rfl ?_
  refine tk_new (n' := 90) (r := 91) dX7_init_181 fn_RX7_15 rfl rfl ?_
  refine tk_dup dX7_init_184 rfl ?_
  refine tk_callIN (As := []) dX7_init_185 fm_RX7_79 rfl rfl (by decide) (k_X6 (a := 89) (by decide) rfl) (fun n1 c1 e1 e2 => ?_)
  subst e1; subst e2
  refine tk_aast (j := 3) dX7_init_188 (by decide) rfl (by decide) (by decide) rfl ⟨_, _, _, _, am_k5, rfl⟩ rfl (by decide) (by decide) ?_
  refine tk_ii (v := nI 4) (L' := [.ref 2, .int (nI 4)]) dX7_init_189 rfl (by decide) (by decide) rfl ?_
  refine tk_goto (tgt := 171) dX7_init_192 (by decide) ?_
  refine tk_il dX7_init_171 rfl ?_
  refine tk_ic (v := nI 4) dX7_init_172 (by decide) ?_
  refine tk_geT (tgt := 195) dX7_init_173 (by decide) (by decide) ?_
  refine tk_ic (v := nI 0) dX7_init_195 (by decide) ?_
  refine tk_is (L' := [.ref 2, .int (nI 0)]) dX7_init_196 (by decide) rfl ?_
  refine tk_il dX7_init_197 rfl ?_
  refine tk_ic (v := nI 3) dX7_init_198 (by decide) ?_
  refine tk_geF dX7_init_199 (by decide) ?_
  refine tk_al dX7_init_202 rfl ?_
  refine tk_getf dX7_init_203 fg_RX7_44 (by decide) rfl rfl ?_
  refine tk_il dX7_init_206 rfl ?_
  refine tk_new (n' := 92) (r := 93) dX7_init_207 fn_RX7_37 rfl rfl ?_
  refine tk_dup dX7_init_210 rfl ?_
  refine tk_callIN (As := []) dX7_init_211 fm_RX7_39 rfl rfl (by decide) (k_X1 (a := 91) (by decide) rfl) (fun n1 c1 e1 e2 => ?_)
  subst e1; subst e2
  refine tk_aast (j := 0) dX7_init_214 (by decide) rfl (by decide) (by decide) rfl ⟨_, _, _, _, am_k1, rfl⟩ rfl (by decide) (by decide) ?_
  refine tk_al dX7_init_215 rfl ?_
  refine tk_getf dX7_init_216 fg_RX7_44 (by decide) rfl rfl ?_
  refine tk_il dX7_init_219 rfl ?_
  refine tk_aald (j := 0) (q := 93) dX7_init_220 (by decide) rfl (by decide) rfl (by decide) (by decide) rfl ?_
  refine tk_ic (v := -1) dX7_init_221 (by decide) ?_
  refine tk_putI (fs := [.ref 94, .int 0]) (fs' := [.ref 94, .int (-1)]) dX7_init_222 fp_RX7_80 (by decide) rfl (Nat.le_of_ble_eq_true rfl) rfl ?_
  refine tk_ii (v := nI 1) (L' := [.ref 2, .int (nI 1)]) dX7_init_225 rfl (by decide) (by decide) rfl ?_
  refine tk_goto (tgt := 197) dX7_init_228 (by decide) ?_
  refine tk_il dX7_init_197 rfl ?_
  refine tk_ic (v := nI 3) dX7_init_198 (by decide) ?_
  refine tk_geF dX7_init_199 (by decide) ?_
  refine tk_al dX7_init_202 rfl ?_
  refine tk_getf dX7_init_203 fg_RX7_44 (by decide) rfl rfl ?_
  refine tk_il dX7_init_206 rfl ?_
  refine tk_new (n' := 94) (r := 95) dX7_init_207 fn_RX7_37 rfl rfl ?_
  refine tk_dup dX7_init_210 rfl ?_
  refine tk_callIN (As := []) dX7_init_211 fm_RX7_39 rfl rfl (by decide) (k_X1 (a := 93) (by decide) rfl) (fun n1 c1 e1 e2 => ?_)
  subst e1; subst e2
  refine tk_aast (j := 1) dX7_init_214 (by decide) rfl (by decide) (by decide) rfl ⟨_, _, _, _, am_k1, rfl⟩ rfl (by decide) (by decide) ?_
  refine tk_al dX7_init_215 rfl ?_
  refine tk_getf dX7_init_216 fg_RX7_44 (by decide) rfl rfl ?_
  refine tk_il dX7_init_219 rfl ?_
  refine tk_aald (j := 1) (q := 95) dX7_init_220 (by decide) rfl (by decide) rfl (by decide) (by decide) rfl ?_
  refine tk_ic (v := -1) dX7_init_221 (by decide) ?_
  refine tk_putI (fs := [.ref 96, .int 0]) (fs' := [.ref 96, .int (-1)]) dX7_init_222 fp_RX7_80 (by decide) rfl (Nat.le_of_ble_eq_true rfl) rfl ?_
  refine tk_ii (v := nI 2) (L' := [.ref 2, .int (nI 2)]) dX7_init_225 rfl (by decide) (by decide) rfl ?_
  refine tk_goto (tgt := 197) dX7_init_228 (by decide) ?_
  refine tk_il dX7_init_197 rfl ?_
  refine tk_ic (v := nI 3) dX7_init_198 (by decide) ?_
  refine tk_geF dX7_init_199 (by decide) ?_
  refine tk_al dX7_init_202 rfl ?_
  refine tk_getf dX7_init_203 fg_RX7_44 (by decide) rfl rfl ?_
  refine tk_il dX7_init_206 rfl ?_
  refine tk_new (n' := 96) (r := 97) dX7_init_207 fn_RX7_37 rfl rfl ?_
  refine tk_dup dX7_init_210 rfl ?_
  refine tk_callIN (As := []) dX7_init_211 fm_RX7_39 rfl rfl (by decide) (k_X1 (a := 95) (by decide) rfl) (fun n1 c1 e1 e2 => ?_)
  subst e1; subst e2
  refine tk_aast (j := 2) dX7_init_214 (by decide) rfl (by decide) (by decide) rfl ⟨_, _, _, _, am_k1, rfl⟩ rfl (by decide) (by decide) ?_
  refine tk_al dX7_init_215 rfl ?_
  refine tk_getf dX7_init_216 fg_RX7_44 (by decide) rfl rfl ?_
  refine tk_il dX7_init_219 rfl ?_
  refine tk_aald (j := 2) (q := 97) dX7_init_220 (by decide) rfl (by decide) rfl (by decide) (by decide) rfl ?_
  refine tk_ic (v := -1) dX7_init_221 (by decide) ?_
  refine tk_putI (fs := [.ref 98, .int 0]) (fs' := [.ref 98, .int (-1)]) dX7_init_222 fp_RX7_80 (by decide) rfl (Nat.le_of_ble_eq_true rfl) rfl ?_
  refine tk_ii (v := nI 3) (L' := [.ref 2, .int (nI 3)]) dX7_init_225 rfl (by decide) (by decide) rfl ?_
  refine tk_goto (tgt := 197) dX7_init_228 (by decide) ?_
  refine tk_il dX7_init_197 rfl ?_
  refine tk_ic (v := nI 3) dX7_init_198 (by decide) ?_
  refine tk_geT (tgt := 231) dX7_init_199 (by decide) (by decide) ?_
  refine tk_vret dX7_init_231 rfl ⟨rfl, rfl, fun q hq => ?_⟩
  match q, hq with
  | 0, _ => rfl
  | 1, _ => exact congrArg (fun f => (Sum.inl (3, (6, .inr (.inr (.inr (.inr f))))) : am_C)) (b6 _ _ _ _ _ _)
  | 2, _ => exact congrArg (fun f => (Sum.inl (4, (4, .inr (.inr (.inr (.inr f))))) : am_C)) (b4 _ _ _ _)
  | 3, _ => rfl
  | 4, _ => rfl
  | 5, _ => rfl
  | 6, _ => rfl
  | 7, _ => rfl
  | 8, _ => rfl
  | 9, _ => rfl
  | 10, _ => rfl
  | 11, _ => rfl
  | 12, _ => rfl
  | 13, _ => rfl
  | 14, _ => rfl
  | 15, _ => rfl
  | 16, _ => rfl
  | 17, _ => rfl
  | 18, _ => rfl
  | 19, _ => rfl
  | 20, _ => rfl
  | 21, _ => rfl
  | 22, _ => rfl
  | 23, _ => rfl
  | 24, _ => rfl
  | 25, _ => exact congrArg (fun f => (Sum.inl (5, (3, .inr (.inr (.inr (.inr f))))) : am_C)) (b3 _ _ _)
  | 26, _ => rfl
  | 27, _ => rfl
  | 28, _ => rfl
  | 29, _ => rfl
  | 30, _ => rfl
  | 31, _ => rfl
  | 32, _ => rfl
  | 33, _ => rfl
  | 34, _ => rfl
  | 35, _ => rfl
  | 36, _ => rfl
  | 37, _ => rfl
  | 38, _ => rfl
  | 39, _ => rfl
  | 40, _ => rfl
  | 41, _ => rfl
  | 42, _ => rfl
  | 43, _ => rfl
  | 44, _ => rfl
  | 45, _ => rfl
  | 46, _ => rfl
  | 47, _ => rfl
  | 48, _ => rfl
  | 49, _ => rfl
  | 50, _ => rfl
  | 51, _ => rfl
  | 52, _ => rfl
  | 53, _ => rfl
  | 54, _ => rfl
  | 55, _ => rfl
  | 56, _ => rfl
  | 57, _ => rfl
  | 58, _ => rfl
  | 59, _ => rfl
  | 60, _ => rfl
  | 61, _ => exact congrArg (fun f => (Sum.inl (7, (6, .inr (.inr (.inr (.inr f))))) : am_C)) b7
  | 62, _ => rfl
  | 63, _ => rfl
  | 64, _ => rfl
  | 65, _ => rfl
  | 66, _ => rfl
  | 67, _ => rfl
  | 68, _ => rfl
  | 69, _ => rfl
  | 70, _ => rfl
  | 71, _ => rfl
  | 72, _ => rfl
  | 73, _ => rfl
  | 74, _ => rfl
  | 75, _ => rfl
  | 76, _ => rfl
  | 77, _ => rfl
  | 78, _ => rfl
  | 79, _ => rfl
  | 80, _ => rfl
  | 81, _ => rfl
  | 82, _ => rfl
  | 83, _ => rfl
  | 84, _ => rfl
  | 85, _ => rfl
  | 86, _ => rfl
  | 87, _ => rfl
  | 88, _ => rfl
  | 89, _ => rfl
  | 90, _ => rfl
  | 91, _ => rfl
  | 92, _ => rfl
  | 93, _ => rfl
  | 94, _ => rfl
  | 95, _ => rfl
  | 96, _ => rfl
  | q + 97, hq => exact absurd hq (by omega)
theorem k_X8 (hc : c 97 = .inr (7, [.null, .null, .null, .null, .null, .null, .null, .null, .null, .null, .int 0, .null, .null, .null, .int 0, .long 0, .long 0, .int 0, .null, .null, .null, .null])) : ck X (d + 1) kX8_init [.ref 99] 98 c (fun n' c' => n' = 115 ∧ c' = fun q => if q < 97 then c q else am_co (shp (q + 2)) mu0 (q + 2)) := by
  refine ck_of ok_X8_init (L := [.ref 99, .float 0]) rfl ?_
  refine tk_al dX8_init_0 rfl ?_
  refine tk_obj dX8_init_1 fo_RX8_1 (by decide) ?_
  refine tk_al dX8_init_4 rfl ?_
  refine tk_bi (v := nI 6) dX8_init_5 (by decide) ?_
  refine tk_newI (N := 6) (n' := 99) (r := 100) dX8_init_7 fy_int rfl (by decide) rfl rfl ?_
  refine tk_putF (fs := [.null, .null, .null, .null, .null, .null, .null, .null, .null, .null, .int 0, .null, .null, .null, .int 0, .long 0, .long 0, .int 0, .null, .null, .null, .null]) (fs' := [.ref 100, .null, .null, .null, .null, .null, .null, .null, .null, .null, .int 0, .null, .null, .null, .int 0, .long 0, .long 0, .int 0, .null, .null, .null, .null]) dX8_init_9 fq_RX8_7 rfl (by decide) hc (Nat.le_of_ble_eq_true rfl) (fun _ => rfl) (fun _ => rfl) rfl ?_
  refine tk_al dX8_init_12 rfl ?_
  refine tk_si (v := nI 240) dX8_init_13 (by decide) ?_
  refine tk_newI (N := 240) (n' := 100) (r := 101) dX8_init_16 fy_int rfl (by decide) rfl rfl ?_
  refine tk_putF (fs := [.ref 100, .null, .null, .null, .null, .null, .null, .null, .null, .null, .int 0, .null, .null, .null, .int 0, .long 0, .long 0, .int 0, .null, .null, .null, .null]) (fs' := [.ref 100, .ref 101, .null, .null, .null, .null, .null, .null, .null, .null, .int 0, .null, .null, .null, .int 0, .long 0, .long 0, .int 0, .null, .null, .null, .null]) dX8_init_18 fq_RX8_13 rfl (by decide) rfl (Nat.le_of_ble_eq_true rfl) (fun _ => rfl) (fun _ => rfl) rfl ?_
  refine tk_al dX8_init_21 rfl ?_
  refine tk_bi (v := nI 40) dX8_init_22 (by decide) ?_
  refine tk_newI (N := 40) (n' := 101) (r := 102) dX8_init_24 fy_int rfl (by decide) rfl rfl ?_
  refine tk_putF (fs := [.ref 100, .ref 101, .null, .null, .null, .null, .null, .null, .null, .null, .int 0, .null, .null, .null, .int 0, .long 0, .long 0, .int 0, .null, .null, .null, .null]) (fs' := [.ref 100, .ref 101, .ref 102, .null, .null, .null, .null, .null, .null, .null, .int 0, .null, .null, .null, .int 0, .long 0, .long 0, .int 0, .null, .null, .null, .null]) dX8_init_26 fq_RX8_16 rfl (by decide) rfl (Nat.le_of_ble_eq_true rfl) (fun _ => rfl) (fun _ => rfl) rfl ?_
  refine tk_al dX8_init_29 rfl ?_
  refine tk_ic (v := nI 4) dX8_init_30 (by decide) ?_
  refine tk_newI (N := 4) (n' := 102) (r := 103) dX8_init_31 fy_int rfl (by decide) rfl rfl ?_
  refine tk_putF (fs := [.ref 100, .ref 101, .ref 102, .null, .null, .null, .null, .null, .null, .null, .int 0, .null, .null, .null, .int 0, .long 0, .long 0, .int 0, .null, .null, .null, .null]) (fs' := [.ref 100, .ref 101, .ref 102, .ref 103, .null, .null, .null, .null, .null, .null, .int 0, .null, .null, .null, .int 0, .long 0, .long 0, .int 0, .null, .null, .null, .null]) dX8_init_33 fq_RX8_19 rfl (by decide) rfl (Nat.le_of_ble_eq_true rfl) (fun _ => rfl) (fun _ => rfl) rfl ?_
  refine tk_al dX8_init_36 rfl ?_
  refine tk_si (v := nI 240) dX8_init_37 (by decide) ?_
  refine tk_newB (N := 240) (n' := 103) (r := 104) dX8_init_40 fy_byte rfl (by decide) rfl rfl ?_
  refine tk_putF (fs := [.ref 100, .ref 101, .ref 102, .ref 103, .null, .null, .null, .null, .null, .null, .int 0, .null, .null, .null, .int 0, .long 0, .long 0, .int 0, .null, .null, .null, .null]) (fs' := [.ref 100, .ref 101, .ref 102, .ref 103, .ref 104, .null, .null, .null, .null, .null, .int 0, .null, .null, .null, .int 0, .long 0, .long 0, .int 0, .null, .null, .null, .null]) dX8_init_42 fq_RX8_22 rfl (by decide) rfl (Nat.le_of_ble_eq_true rfl) (fun _ => rfl) (fun _ => rfl) rfl ?_
  refine tk_al dX8_init_45 rfl ?_
  refine tk_bi (v := nI 33) dX8_init_46 (by decide) ?_
  refine tk_newI (N := 33) (n' := 104) (r := 105) dX8_init_48 fy_int rfl (by decide) rfl rfl ?_
  refine tk_putF (fs := [.ref 100, .ref 101, .ref 102, .ref 103, .ref 104, .null, .null, .null, .null, .null, .int 0, .null, .null, .null, .int 0, .long 0, .long 0, .int 0, .null, .null, .null, .null]) (fs' := [.ref 100, .ref 101, .ref 102, .ref 103, .ref 104, .ref 105, .null, .null, .null, .null, .int 0, .null, .null, .null, .int 0, .long 0, .long 0, .int 0, .null, .null, .null, .null]) dX8_init_50 fq_RX8_26 rfl (by decide) rfl (Nat.le_of_ble_eq_true rfl) (fun _ => rfl) (fun _ => rfl) rfl ?_
  refine tk_al dX8_init_53 rfl ?_
  refine tk_bi (v := nI 33) dX8_init_54 (by decide) ?_
  refine tk_newI (N := 33) (n' := 105) (r := 106) dX8_init_56 fy_int rfl (by decide) rfl rfl ?_
  refine tk_putF (fs := [.ref 100, .ref 101, .ref 102, .ref 103, .ref 104, .ref 105, .null, .null, .null, .null, .int 0, .null, .null, .null, .int 0, .long 0, .long 0, .int 0, .null, .null, .null, .null]) (fs' := [.ref 100, .ref 101, .ref 102, .ref 103, .ref 104, .ref 105, .ref 106, .null, .null, .null, .int 0, .null, .null, .null, .int 0, .long 0, .long 0, .int 0, .null, .null, .null, .null]) dX8_init_58 fq_RX8_29 rfl (by decide) rfl (Nat.le_of_ble_eq_true rfl) (fun _ => rfl) (fun _ => rfl) rfl ?_
  refine tk_al dX8_init_61 rfl ?_
  refine tk_bi (v := nI 33) dX8_init_62 (by decide) ?_
  refine tk_newI (N := 33) (n' := 106) (r := 107) dX8_init_64 fy_int rfl (by decide) rfl rfl ?_
  refine tk_putF (fs := [.ref 100, .ref 101, .ref 102, .ref 103, .ref 104, .ref 105, .ref 106, .null, .null, .null, .int 0, .null, .null, .null, .int 0, .long 0, .long 0, .int 0, .null, .null, .null, .null]) (fs' := [.ref 100, .ref 101, .ref 102, .ref 103, .ref 104, .ref 105, .ref 106, .ref 107, .null, .null, .int 0, .null, .null, .null, .int 0, .long 0, .long 0, .int 0, .null, .null, .null, .null]) dX8_init_66 fq_RX8_32 rfl (by decide) rfl (Nat.le_of_ble_eq_true rfl) (fun _ => rfl) (fun _ => rfl) rfl ?_
  refine tk_al dX8_init_69 rfl ?_
  refine tk_bi (v := nI 33) dX8_init_70 (by decide) ?_
  refine tk_newI (N := 33) (n' := 107) (r := 108) dX8_init_72 fy_int rfl (by decide) rfl rfl ?_
  refine tk_putF (fs := [.ref 100, .ref 101, .ref 102, .ref 103, .ref 104, .ref 105, .ref 106, .ref 107, .null, .null, .int 0, .null, .null, .null, .int 0, .long 0, .long 0, .int 0, .null, .null, .null, .null]) (fs' := [.ref 100, .ref 101, .ref 102, .ref 103, .ref 104, .ref 105, .ref 106, .ref 107, .ref 108, .null, .int 0, .null, .null, .null, .int 0, .long 0, .long 0, .int 0, .null, .null, .null, .null]) dX8_init_74 fq_RX8_35 rfl (by decide) rfl (Nat.le_of_ble_eq_true rfl) (fun _ => rfl) (fun _ => rfl) rfl ?_
  refine tk_al dX8_init_77 rfl ?_
  refine tk_si (v := nI 720) dX8_init_78 (by decide) ?_
  refine tk_newI (N := 720) (n' := 108) (r := 109) dX8_init_81 fy_int rfl (by decide) rfl rfl ?_
  refine tk_putF (fs := [.ref 100, .ref 101, .ref 102, .ref 103, .ref 104, .ref 105, .ref 106, .ref 107, .ref 108, .null, .int 0, .null, .null, .null, .int 0, .long 0, .long 0, .int 0, .null, .null, .null, .null]) (fs' := [.ref 100, .ref 101, .ref 102, .ref 103, .ref 104, .ref 105, .ref 106, .ref 107, .ref 108, .ref 109, .int 0, .null, .null, .null, .int 0, .long 0, .long 0, .int 0, .null, .null, .null, .null]) dX8_init_83 fq_RX8_38 rfl (by decide) rfl (Nat.le_of_ble_eq_true rfl) (fun _ => rfl) (fun _ => rfl) rfl ?_
  refine tk_al dX8_init_86 rfl ?_
  refine tk_bi (v := nI 99) dX8_init_87 (by decide) ?_
  refine tk_newI (N := 99) (n' := 109) (r := 110) dX8_init_89 fy_int rfl (by decide) rfl rfl ?_
  refine tk_putF (fs := [.ref 100, .ref 101, .ref 102, .ref 103, .ref 104, .ref 105, .ref 106, .ref 107, .ref 108, .ref 109, .int 0, .null, .null, .null, .int 0, .long 0, .long 0, .int 0, .null, .null, .null, .null]) (fs' := [.ref 100, .ref 101, .ref 102, .ref 103, .ref 104, .ref 105, .ref 106, .ref 107, .ref 108, .ref 109, .int 0, .ref 110, .null, .null, .int 0, .long 0, .long 0, .int 0, .null, .null, .null, .null]) dX8_init_91 fq_RX8_41 rfl (by decide) rfl (Nat.le_of_ble_eq_true rfl) (fun _ => rfl) (fun _ => rfl) rfl ?_
  refine tk_al dX8_init_94 rfl ?_
  refine tk_si (v := nI 2160) dX8_init_95 (by decide) ?_
  refine tk_newI (N := 2160) (n' := 110) (r := 111) dX8_init_98 fy_int rfl (by decide) rfl rfl ?_
  refine tk_putF (fs := [.ref 100, .ref 101, .ref 102, .ref 103, .ref 104, .ref 105, .ref 106, .ref 107, .ref 108, .ref 109, .int 0, .ref 110, .null, .null, .int 0, .long 0, .long 0, .int 0, .null, .null, .null, .null]) (fs' := [.ref 100, .ref 101, .ref 102, .ref 103, .ref 104, .ref 105, .ref 106, .ref 107, .ref 108, .ref 109, .int 0, .ref 110, .ref 111, .null, .int 0, .long 0, .long 0, .int 0, .null, .null, .null, .null]) dX8_init_100 fq_RX8_44 rfl (by decide) rfl (Nat.le_of_ble_eq_true rfl) (fun _ => rfl) (fun _ => rfl) rfl ?_
  refine tk_al dX8_init_103 rfl ?_
  refine tk_ic (v := nI 3) dX8_init_104 (by decide) ?_
  refine tk_newI (N := 3) (n' := 111) (r := 112) dX8_init_105 fy_int rfl (by decide) rfl rfl ?_
  refine tk_putF (fs := [.ref 100, .ref 101, .ref 102, .ref 103, .ref 104, .ref 105, .ref 106, .ref 107, .ref 108, .ref 109, .int 0, .ref 110, .ref 111, .null, .int 0, .long 0, .long 0, .int 0, .null, .null, .null, .null]) (fs' := [.ref 100, .ref 101, .ref 102, .ref 103, .ref 104, .ref 105, .ref 106, .ref 107, .ref 108, .ref 109, .int 0, .ref 110, .ref 111, .ref 112, .int 0, .long 0, .long 0, .int 0, .null, .null, .null, .null]) dX8_init_107 fq_RX8_47 rfl (by decide) rfl (Nat.le_of_ble_eq_true rfl) (fun _ => rfl) (fun _ => rfl) rfl ?_
  refine tk_al dX8_init_110 rfl ?_
  refine tk_lc (v := 1) dX8_init_111 (by decide) ?_
  refine tk_putJ (fs := [.ref 100, .ref 101, .ref 102, .ref 103, .ref 104, .ref 105, .ref 106, .ref 107, .ref 108, .ref 109, .int 0, .ref 110, .ref 111, .ref 112, .int 0, .long 0, .long 0, .int 0, .null, .null, .null, .null]) (fs' := [.ref 100, .ref 101, .ref 102, .ref 103, .ref 104, .ref 105, .ref 106, .ref 107, .ref 108, .ref 109, .int 0, .ref 110, .ref 111, .ref 112, .int 0, .long 0, .long 1, .int 0, .null, .null, .null, .null]) dX8_init_112 fp_RX8_50 (by decide) rfl (Nat.le_of_ble_eq_true rfl) rfl ?_
  refine tk_al dX8_init_115 rfl ?_
  refine tk_bi (v := nI 6) dX8_init_116 (by decide) ?_
  refine tk_newI (N := 6) (n' := 112) (r := 113) dX8_init_118 fy_int rfl (by decide) rfl rfl ?_
  refine tk_putF (fs := [.ref 100, .ref 101, .ref 102, .ref 103, .ref 104, .ref 105, .ref 106, .ref 107, .ref 108, .ref 109, .int 0, .ref 110, .ref 111, .ref 112, .int 0, .long 0, .long 1, .int 0, .null, .null, .null, .null]) (fs' := [.ref 100, .ref 101, .ref 102, .ref 103, .ref 104, .ref 105, .ref 106, .ref 107, .ref 108, .ref 109, .int 0, .ref 110, .ref 111, .ref 112, .int 0, .long 0, .long 1, .int 0, .ref 113, .null, .null, .null]) dX8_init_120 fq_RX8_54 rfl (by decide) rfl (Nat.le_of_ble_eq_true rfl) (fun _ => rfl) (fun _ => rfl) rfl ?_
  refine tk_al dX8_init_123 rfl ?_
  refine tk_bi (v := nI 61) dX8_init_124 (by decide) ?_
  refine tk_newI (N := 61) (n' := 113) (r := 114) dX8_init_126 fy_int rfl (by decide) rfl rfl ?_
  refine tk_putF (fs := [.ref 100, .ref 101, .ref 102, .ref 103, .ref 104, .ref 105, .ref 106, .ref 107, .ref 108, .ref 109, .int 0, .ref 110, .ref 111, .ref 112, .int 0, .long 0, .long 1, .int 0, .ref 113, .null, .null, .null]) (fs' := [.ref 100, .ref 101, .ref 102, .ref 103, .ref 104, .ref 105, .ref 106, .ref 107, .ref 108, .ref 109, .int 0, .ref 110, .ref 111, .ref 112, .int 0, .long 0, .long 1, .int 0, .ref 113, .ref 114, .null, .null]) dX8_init_128 fq_RX8_57 rfl (by decide) rfl (Nat.le_of_ble_eq_true rfl) (fun _ => rfl) (fun _ => rfl) rfl ?_
  refine tk_al dX8_init_131 rfl ?_
  refine tk_bi (v := nI 10) dX8_init_132 (by decide) ?_
  refine tk_newI (N := 10) (n' := 114) (r := 115) dX8_init_134 fy_int rfl (by decide) rfl rfl ?_
  refine tk_putF (fs := [.ref 100, .ref 101, .ref 102, .ref 103, .ref 104, .ref 105, .ref 106, .ref 107, .ref 108, .ref 109, .int 0, .ref 110, .ref 111, .ref 112, .int 0, .long 0, .long 1, .int 0, .ref 113, .ref 114, .null, .null]) (fs' := [.ref 100, .ref 101, .ref 102, .ref 103, .ref 104, .ref 105, .ref 106, .ref 107, .ref 108, .ref 109, .int 0, .ref 110, .ref 111, .ref 112, .int 0, .long 0, .long 1, .int 0, .ref 113, .ref 114, .ref 115, .null]) dX8_init_136 fq_RX8_60 rfl (by decide) rfl (Nat.le_of_ble_eq_true rfl) (fun _ => rfl) (fun _ => rfl) rfl ?_
  refine tk_al dX8_init_139 rfl ?_
  refine tk_bi (v := nI 126) dX8_init_140 (by decide) ?_
  refine tk_newI (N := 126) (n' := 115) (r := 116) dX8_init_142 fy_int rfl (by decide) rfl rfl ?_
  refine tk_putF (fs := [.ref 100, .ref 101, .ref 102, .ref 103, .ref 104, .ref 105, .ref 106, .ref 107, .ref 108, .ref 109, .int 0, .ref 110, .ref 111, .ref 112, .int 0, .long 0, .long 1, .int 0, .ref 113, .ref 114, .ref 115, .null]) (fs' := [.ref 100, .ref 101, .ref 102, .ref 103, .ref 104, .ref 105, .ref 106, .ref 107, .ref 108, .ref 109, .int 0, .ref 110, .ref 111, .ref 112, .int 0, .long 0, .long 1, .int 0, .ref 113, .ref 114, .ref 115, .ref 116]) dX8_init_144 fq_RX8_63 rfl (by decide) rfl (Nat.le_of_ble_eq_true rfl) (fun _ => rfl) (fun _ => rfl) rfl ?_
  refine tk_ic (v := nI 0) dX8_init_147 (by decide) ?_
  refine tk_is (L' := [.ref 99, .int (nI 0)]) dX8_init_148 (by decide) rfl ?_
  refine tk_il dX8_init_149 rfl ?_
  refine tk_bi (v := nI 6) dX8_init_150 (by decide) ?_
  refine tk_geF dX8_init_152 (by decide) ?_
  refine tk_al dX8_init_155 rfl ?_
  refine tk_getf dX8_init_156 fg_RX8_7 (by decide) rfl rfl ?_
  refine tk_il dX8_init_159 rfl ?_
  refine tk_ic (v := -1) dX8_init_160 (by decide) ?_
  refine tk_iast (j := 0) dX8_init_161 (by decide) rfl rfl (by decide) (by decide) ?_
  refine tk_ii (v := nI 1) (L' := [.ref 99, .int (nI 1)]) dX8_init_162 rfl (by decide) (by decide) rfl ?_
  refine tk_goto (tgt := 149) dX8_init_165 (by decide) ?_
  refine tk_il dX8_init_149 rfl ?_
  refine tk_bi (v := nI 6) dX8_init_150 (by decide) ?_
  refine tk_geF dX8_init_152 (by decide) ?_
  refine tk_al dX8_init_155 rfl ?_
  refine tk_getf dX8_init_156 fg_RX8_7 (by decide) rfl rfl ?_
  refine tk_il dX8_init_159 rfl ?_
  refine tk_ic (v := -1) dX8_init_160 (by decide) ?_
  refine tk_iast (j := 1) dX8_init_161 (by decide) rfl rfl (by decide) (by decide) ?_
  refine tk_ii (v := nI 2) (L' := [.ref 99, .int (nI 2)]) dX8_init_162 rfl (by decide) (by decide) rfl ?_
  refine tk_goto (tgt := 149) dX8_init_165 (by decide) ?_
  refine tk_il dX8_init_149 rfl ?_
  refine tk_bi (v := nI 6) dX8_init_150 (by decide) ?_
  refine tk_geF dX8_init_152 (by decide) ?_
  refine tk_al dX8_init_155 rfl ?_
  refine tk_getf dX8_init_156 fg_RX8_7 (by decide) rfl rfl ?_
  refine tk_il dX8_init_159 rfl ?_
  refine tk_ic (v := -1) dX8_init_160 (by decide) ?_
  refine tk_iast (j := 2) dX8_init_161 (by decide) rfl rfl (by decide) (by decide) ?_
  refine tk_ii (v := nI 3) (L' := [.ref 99, .int (nI 3)]) dX8_init_162 rfl (by decide) (by decide) rfl ?_
  refine tk_goto (tgt := 149) dX8_init_165 (by decide) ?_
  refine tk_il dX8_init_149 rfl ?_
  refine tk_bi (v := nI 6) dX8_init_150 (by decide) ?_
  refine tk_geF dX8_init_152 (by decide) ?_
  refine tk_al dX8_init_155 rfl ?_
  refine tk_getf dX8_init_156 fg_RX8_7 (by decide) rfl rfl ?_
  refine tk_il dX8_init_159 rfl ?_
  refine tk_ic (v := -1) dX8_init_160 (by decide) ?_
  refine tk_iast (j := 3) dX8_init_161 (by decide) rfl rfl (by decide) (by decide) ?_
  refine tk_ii (v := nI 4) (L' := [.ref 99, .int (nI 4)]) dX8_init_162 rfl (by decide) (by decide) rfl ?_
  refine tk_goto (tgt := 149) dX8_init_165 (by decide) ?_
  refine tk_il dX8_init_149 rfl ?_
  refine tk_bi (v := nI 6) dX8_init_150 (by decide) ?_
  refine tk_geF dX8_init_152 (by decide) ?_
  refine tk_al dX8_init_155 rfl ?_
  refine tk_getf dX8_init_156 fg_RX8_7 (by decide) rfl rfl ?_
  refine tk_il dX8_init_159 rfl ?_
  refine tk_ic (v := -1) dX8_init_160 (by decide) ?_
  refine tk_iast (j := 4) dX8_init_161 (by decide) rfl rfl (by decide) (by decide) ?_
  refine tk_ii (v := nI 5) (L' := [.ref 99, .int (nI 5)]) dX8_init_162 rfl (by decide) (by decide) rfl ?_
  refine tk_goto (tgt := 149) dX8_init_165 (by decide) ?_
  refine tk_il dX8_init_149 rfl ?_
  refine tk_bi (v := nI 6) dX8_init_150 (by decide) ?_
  refine tk_geF dX8_init_152 (by decide) ?_
  refine tk_al dX8_init_155 rfl ?_
  refine tk_getf dX8_init_156 fg_RX8_7 (by decide) rfl rfl ?_
  refine tk_il dX8_init_159 rfl ?_
  refine tk_ic (v := -1) dX8_init_160 (by decide) ?_
  refine tk_iast (j := 5) dX8_init_161 (by decide) rfl rfl (by decide) (by decide) ?_
  refine tk_ii (v := nI 6) (L' := [.ref 99, .int (nI 6)]) dX8_init_162 rfl (by decide) (by decide) rfl ?_
  refine tk_goto (tgt := 149) dX8_init_165 (by decide) ?_
  refine tk_il dX8_init_149 rfl ?_
  refine tk_bi (v := nI 6) dX8_init_150 (by decide) ?_
  refine tk_geT (tgt := 168) dX8_init_152 (by decide) (by decide) ?_
  refine tk_ic (v := nI 0) dX8_init_168 (by decide) ?_
  refine tk_is (L' := [.ref 99, .int (nI 0)]) dX8_init_169 (by decide) rfl ?_
  refine tk_il dX8_init_170 rfl ?_
  refine tk_ic (v := nI 4) dX8_init_171 (by decide) ?_
  refine tk_geF dX8_init_172 (by decide) ?_
  refine tk_al dX8_init_175 rfl ?_
  refine tk_getf dX8_init_176 fg_RX8_19 (by decide) rfl rfl ?_
  refine tk_il dX8_init_179 rfl ?_
  refine tk_ic (v := -1) dX8_init_180 (by decide) ?_
  refine tk_iast (j := 0) dX8_init_181 (by decide) rfl rfl (by decide) (by decide) ?_
  refine tk_ii (v := nI 1) (L' := [.ref 99, .int (nI 1)]) dX8_init_182 rfl (by decide) (by decide) rfl ?_
  refine tk_goto (tgt := 170) dX8_init_185 (by decide) ?_
  refine tk_il dX8_init_170 rfl ?_
  refine tk_ic (v := nI 4) dX8_init_171 (by decide) ?_
  refine tk_geF dX8_init_172 (by decide) ?_
  refine tk_al dX8_init_175 rfl ?_
  refine tk_getf dX8_init_176 fg_RX8_19 (by decide) rfl rfl ?_
  refine tk_il dX8_init_179 rfl ?_
  refine tk_ic (v := -1) dX8_init_180 (by decide) ?_
  refine tk_iast (j := 1) dX8_init_181 (by decide) rfl rfl (by decide) (by decide) ?_
  refine tk_ii (v := nI 2) (L' := [.ref 99, .int (nI 2)]) dX8_init_182 rfl (by decide) (by decide) rfl ?_
  refine tk_goto (tgt := 170) dX8_init_185 (by decide) ?_
  refine tk_il dX8_init_170 rfl ?_
  refine tk_ic (v := nI 4) dX8_init_171 (by decide) ?_
  refine tk_geF dX8_init_172 (by decide) ?_
  refine tk_al dX8_init_175 rfl ?_
  refine tk_getf dX8_init_176 fg_RX8_19 (by decide) rfl rfl ?_
  refine tk_il dX8_init_179 rfl ?_
  refine tk_ic (v := -1) dX8_init_180 (by decide) ?_
  refine tk_iast (j := 2) dX8_init_181 (by decide) rfl rfl (by decide) (by decide) ?_
  refine tk_ii (v := nI 3) (L' := [.ref 99, .int (nI 3)]) dX8_init_182 rfl (by decide) (by decide) rfl ?_
  refine tk_goto (tgt := 170) dX8_init_185 (by decide) ?_
  refine tk_il dX8_init_170 rfl ?_
  refine tk_ic (v := nI 4) dX8_init_171 (by decide) ?_
  refine tk_geF dX8_init_172 (by decide) ?_
  refine tk_al dX8_init_175 rfl ?_
  refine tk_getf dX8_init_176 fg_RX8_19 (by decide) rfl rfl ?_
  refine tk_il dX8_init_179 rfl ?_
  refine tk_ic (v := -1) dX8_init_180 (by decide) ?_
  refine tk_iast (j := 3) dX8_init_181 (by decide) rfl rfl (by decide) (by decide) ?_
  refine tk_ii (v := nI 4) (L' := [.ref 99, .int (nI 4)]) dX8_init_182 rfl (by decide) (by decide) rfl ?_
  refine tk_goto (tgt := 170) dX8_init_185 (by decide) ?_
  refine tk_il dX8_init_170 rfl ?_
  refine tk_ic (v := nI 4) dX8_init_171 (by decide) ?_
  refine tk_geT (tgt := 188) dX8_init_172 (by decide) (by decide) ?_
  refine tk_ic (v := nI 0) dX8_init_188 (by decide) ?_
  refine tk_is (L' := [.ref 99, .int (nI 0)]) dX8_init_189 (by decide) rfl ?_
  refine tk_il dX8_init_190 rfl ?_
  refine tk_al dX8_init_191 rfl ?_
  refine tk_getf dX8_init_192 fg_RX8_47 (by decide) rfl rfl ?_
  refine tk_alen (N := 3) dX8_init_195 (by decide) rfl ?_
  refine tk_geF dX8_init_196 (by decide) ?_
  refine tk_al dX8_init_199 rfl ?_
  refine tk_getf dX8_init_200 fg_RX8_47 (by decide) rfl rfl ?_
  refine tk_il dX8_init_203 rfl ?_
  refine tk_ic (v := -1) dX8_init_204 (by decide) ?_
  refine tk_iast (j := 0) dX8_init_205 (by decide) rfl rfl (by decide) (by decide) ?_
  refine tk_ii (v := nI 1) (L' := [.ref 99, .int (nI 1)]) dX8_init_206 rfl (by decide) (by decide) rfl ?_
  refine tk_goto (tgt := 190) dX8_init_209 (by decide) ?_
  refine tk_il dX8_init_190 rfl ?_
  refine tk_al dX8_init_191 rfl ?_
  refine tk_getf dX8_init_192 fg_RX8_47 (by decide) rfl rfl ?_
  refine tk_alen (N := 3) dX8_init_195 (by decide) rfl ?_
  refine tk_geF dX8_init_196 (by decide) ?_
  refine tk_al dX8_init_199 rfl ?_
  refine tk_getf dX8_init_200 fg_RX8_47 (by decide) rfl rfl ?_
  refine tk_il dX8_init_203 rfl ?_
  refine tk_ic (v := -1) dX8_init_204 (by decide) ?_
  refine tk_iast (j := 1) dX8_init_205 (by decide) rfl rfl (by decide) (by decide) ?_
  refine tk_ii (v := nI 2) (L' := [.ref 99, .int (nI 2)]) dX8_init_206 rfl (by decide) (by decide) rfl ?_
  refine tk_goto (tgt := 190) dX8_init_209 (by decide) ?_
  refine tk_il dX8_init_190 rfl ?_
  refine tk_al dX8_init_191 rfl ?_
  refine tk_getf dX8_init_192 fg_RX8_47 (by decide) rfl rfl ?_
  refine tk_alen (N := 3) dX8_init_195 (by decide) rfl ?_
  refine tk_geF dX8_init_196 (by decide) ?_
  refine tk_al dX8_init_199 rfl ?_
  refine tk_getf dX8_init_200 fg_RX8_47 (by decide) rfl rfl ?_
  refine tk_il dX8_init_203 rfl ?_
  refine tk_ic (v := -1) dX8_init_204 (by decide) ?_
  refine tk_iast (j := 2) dX8_init_205 (by decide) rfl rfl (by decide) (by decide) ?_
  refine tk_ii (v := nI 3) (L' := [.ref 99, .int (nI 3)]) dX8_init_206 rfl (by decide) (by decide) rfl ?_
  refine tk_goto (tgt := 190) dX8_init_209 (by decide) ?_
  refine tk_il dX8_init_190 rfl ?_
  refine tk_al dX8_init_191 rfl ?_
  refine tk_getf dX8_init_192 fg_RX8_47 (by decide) rfl rfl ?_
  refine tk_alen (N := 3) dX8_init_195 (by decide) rfl ?_
  refine tk_geT (tgt := 212) dX8_init_196 (by decide) (by decide) ?_
  refine tk_retc (c' := fun q => if q < 97 then c q else am_co (shp (q + 2)) mu0 (q + 2)) dX8_init_212 rfl ⟨rfl, rfl, rfl⟩ (fun q hq => ?_)
  match q, hq with
  | 0, _ => rfl
  | 1, _ => rfl
  | 2, _ => rfl
  | 3, _ => rfl
  | 4, _ => rfl
  | 5, _ => rfl
  | 6, _ => rfl
  | 7, _ => rfl
  | 8, _ => rfl
  | 9, _ => rfl
  | 10, _ => rfl
  | 11, _ => rfl
  | 12, _ => rfl
  | 13, _ => rfl
  | 14, _ => rfl
  | 15, _ => rfl
  | 16, _ => rfl
  | 17, _ => rfl
  | 18, _ => rfl
  | 19, _ => rfl
  | 20, _ => rfl
  | 21, _ => rfl
  | 22, _ => rfl
  | 23, _ => rfl
  | 24, _ => rfl
  | 25, _ => rfl
  | 26, _ => rfl
  | 27, _ => rfl
  | 28, _ => rfl
  | 29, _ => rfl
  | 30, _ => rfl
  | 31, _ => rfl
  | 32, _ => rfl
  | 33, _ => rfl
  | 34, _ => rfl
  | 35, _ => rfl
  | 36, _ => rfl
  | 37, _ => rfl
  | 38, _ => rfl
  | 39, _ => rfl
  | 40, _ => rfl
  | 41, _ => rfl
  | 42, _ => rfl
  | 43, _ => rfl
  | 44, _ => rfl
  | 45, _ => rfl
  | 46, _ => rfl
  | 47, _ => rfl
  | 48, _ => rfl
  | 49, _ => rfl
  | 50, _ => rfl
  | 51, _ => rfl
  | 52, _ => rfl
  | 53, _ => rfl
  | 54, _ => rfl
  | 55, _ => rfl
  | 56, _ => rfl
  | 57, _ => rfl
  | 58, _ => rfl
  | 59, _ => rfl
  | 60, _ => rfl
  | 61, _ => rfl
  | 62, _ => rfl
  | 63, _ => rfl
  | 64, _ => rfl
  | 65, _ => rfl
  | 66, _ => rfl
  | 67, _ => rfl
  | 68, _ => rfl
  | 69, _ => rfl
  | 70, _ => rfl
  | 71, _ => rfl
  | 72, _ => rfl
  | 73, _ => rfl
  | 74, _ => rfl
  | 75, _ => rfl
  | 76, _ => rfl
  | 77, _ => rfl
  | 78, _ => rfl
  | 79, _ => rfl
  | 80, _ => rfl
  | 81, _ => rfl
  | 82, _ => rfl
  | 83, _ => rfl
  | 84, _ => rfl
  | 85, _ => rfl
  | 86, _ => rfl
  | 87, _ => rfl
  | 88, _ => rfl
  | 89, _ => rfl
  | 90, _ => rfl
  | 91, _ => rfl
  | 92, _ => rfl
  | 93, _ => rfl
  | 94, _ => rfl
  | 95, _ => rfl
  | 96, _ => rfl
  | 97, _ => rfl
  | 98, _ => rfl
  | 99, _ => rfl
  | 100, _ => rfl
  | 101, _ => rfl
  | 102, _ => rfl
  | 103, _ => rfl
  | 104, _ => rfl
  | 105, _ => rfl
  | 106, _ => rfl
  | 107, _ => rfl
  | 108, _ => rfl
  | 109, _ => rfl
  | 110, _ => rfl
  | 111, _ => rfl
  | 112, _ => rfl
  | 113, _ => rfl
  | 114, _ => rfl
  | q + 115, hq => exact absurd hq (by omega)
end IN
