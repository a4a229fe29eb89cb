-- ===== THE RULES HOLD OVER THE MACHINE (written by wip/mkrules.py) =====
theorem am_D.puts {G : am_G} {s : State} {h0 h : am_H} {H H1 : Heap} {locs Ls : List Loc} {a : Nat} {c d : am_C} (dy : am_D G s h0 h H locs) (hk : h[a]? = some d) (hs : am_sc c = am_sc d)
    (e : va_at G.1 vwCl (am_gB G + a, am_E (am_gf G) (am_gA G) c) H1) (z : H1.size = H.size) (oq : ∀ q : Nat, q ≠ am_gB G + a → H1[q]? = H[q]?) (hL : ∀ q ∈ Ls, q.base = am_gB G + a) : am_D G s h0 (h.set a c) H1 (locs ++ Ls) := by
  obtain ⟨d1, d2, d3, d4, d5⟩ := dy
  refine ⟨by rw [z, List.length_set]; exact d1, ?_, ⟨by rw [z]; exact d3.1, fun q g1 g2 => ?_, fun q hq => ?_⟩, by rw [List.length_set]; exact d4, by rw [am_sz_set h a c d hk hs]; exact d5⟩
  · have := d2.set (am_ws_D _ _ _ _) (am_ws_at (f := am_gf G) (cA := am_gA G) (B := am_gB G) hk) e oq
    rw [am_ws_set] at this
    exact this
  · rw [oq q (fun e => g2 (by rw [e]; exact Nat.le_add_right _ _))]
    exact d3.2.1 q g1 g2
  · rcases List.mem_append.mp hq with h1 | h1
    · exact d3.2.2 q h1
    · rw [hL q h1]
      exact Nat.le_add_right _ _
theorem am_outer (c : ClassId) (N h0 : Nat) : ∀ i : Nat, Jvm.Free.Multi.outerC c N h0 i = arrV c N (fun j => va_rf (if j < i then some (h0 + 1 + j) else none))
  | 0 => by
    show ({ cls := c, slots := Array.replicate N .null, vm := .none } : Cell) = _
    rw [arrV_new]
    refine congrArg (arrV c N) (funext fun j => ?_)
    simp [va_rf]
  | i + 1 => by
    show (Jvm.Free.Multi.outerC c N h0 i).setSlot i (.ref (h0 + 1 + i)) = _
    rw [am_outer c N h0 i, arrV_store]
    refine congrArg (arrV c N) (funext fun j => ?_)
    by_cases e : j = i
    · subst e
      simp [updV, va_rf]
    · by_cases h : j < i
      · simp [updV, e, h, Nat.lt_succ_of_lt h]
      · simp [updV, e, h, show ¬ j < i + 1 by omega]
def am_rm (d mc ms : Nat) : Room := { frames := d + 1, cells := mc, slots := ms, locals := 64 * (d + 1) }
def am_ws0 (y : am_K) : List Cond := Cond.code y.1 y.2.1 y.2.2.1 y.2.2.2 :: am_tb
def am_Q (G : am_G) (r : Option Value) (h' : am_H) : Array Value → State → Outcome → State → Prop := fun _ st oc t => oc = .returned (r.map (am_cv (am_gf G))) ∧ am_W G h' t ∧ va_F (am_up G) st t
def am_CS (l : Launch) (G : am_G) (d : Nat) (Cr : am_R) : Prop := ∀ y vs h r h', Cr y vs h r h' → (h.length ≤ h'.length ∧ am_sz h ≤ am_sz h') ∧ Met l y.1 (am_ws0 y) (am_rm d (h'.length - h.length) (am_sz h' - am_sz h)) (va_Pc (vs.map (am_cv (am_gf G))) (am_W G h)) (am_Q G r h') (h'.length - h.length) (am_sz h' - am_sz h) (am_up G)
def am_end (p : Program) (l : Launch) (e : Env) (R : Room) (s : State) (m : MethodId) (args : Array Value) (below : List Frame) (meth : Method) (c : Code) (Q : State → Prop) (G : am_G) (h0 h' : am_H) (k : am_K) (r : Option Value) : Prop :=
  ∀ (pc : Nat) (H : Heap) (locs : List Loc) (ls : Array Slot), am_fin k.2.1 pc r → am_okr k.2.2.2 r → am_D G s h0 h' H locs → W p l e R s m args below meth c H locs (h'.length - h0.length) (am_sz h' - am_sz h0) Q (F0 m pc ls (r.toList.map (am_cv (am_gf G))))
section HEAD
variable {p : Program} {l : Launch} {e : Env} {R : Room} {s : State} {m : MethodId} {args : Array Value} {below : List Frame} {meth : Method} {c : Code} {Q : State → Prop} {G : am_G} {d : Nat} {k : am_K} {r : Option Value} {h0 h' : am_H} {Cr : am_R}
theorem am_set {nL pc pc' : Nat} {L S S' : List Value} {h : am_H} {a : Nat} {c0 d0 : am_C} (hk : h[a]? = some d0) (hs : am_sc c0 = am_sc d0) (hP : am_P p l e R s m args below meth c Q G h0 h' nL pc' L S' (h.set a c0))
    (F : ∀ (H : Heap) (locs : List Loc) (ls : Array Slot), am_D G s h0 h H locs → am_L (am_gf G) nL L ls → (∀ (H1 : Heap) (j : Nat), va_at G.1 vwCl (am_gB G + a, am_E (am_gf G) (am_gA G) c0) H1 → H1.size = H.size → (∀ q : Nat, q ≠ am_gB G + a → H1[q]? = H[q]?) →
      W p l e R s m args below meth c H1 (locs ++ [⟨am_gB G + a, j⟩]) (h.length - h0.length) (am_sz h - am_sz h0) Q (F0 m pc' ls (S'.map (am_cv (am_gf G))))) → W p l e R s m args below meth c H locs (h.length - h0.length) (am_sz h - am_sz h0) Q (F0 m pc ls (S.map (am_cv (am_gf G))))) : am_P p l e R s m args below meth c Q G h0 h' nL pc L S h := by
  obtain ⟨⟨m1, m2⟩, hP⟩ := hP
  rw [List.length_set] at m1
  rw [am_sz_set h a c0 d0 hk hs] at m2
  refine ⟨⟨m1, m2⟩, fun H locs ls dy lr => F H locs ls dy lr fun H1 j e1 z oq => ?_⟩
  have := hP H1 _ ls (dy.puts hk hs e1 z oq (Ls := [⟨am_gB G + a, j⟩]) (fun q hq => by rw [List.mem_singleton.mp hq])) lr
  rw [List.length_set, am_sz_set h a c0 d0 hk hs] at this
  exact this
theorem am_sets {nL pc pc' : Nat} {L S S' : List Value} {h : am_H} {a : Nat} {c0 d0 : am_C} (hk : h[a]? = some d0) (hs : am_sc c0 = am_sc d0) (hP : am_P p l e R s m args below meth c Q G h0 h' nL pc' L S' (h.set a c0))
    (F : ∀ (H : Heap) (locs : List Loc) (ls : Array Slot), am_D G s h0 h H locs → am_L (am_gf G) nL L ls → (∀ (H1 : Heap) (Ls : List Loc), va_at G.1 vwCl (am_gB G + a, am_E (am_gf G) (am_gA G) c0) H1 → H1.size = H.size → (∀ q : Nat, q ≠ am_gB G + a → H1[q]? = H[q]?) → (∀ q ∈ Ls, q.base = am_gB G + a) →
      W p l e R s m args below meth c H1 (locs ++ Ls) (h.length - h0.length) (am_sz h - am_sz h0) Q (F0 m pc' ls (S'.map (am_cv (am_gf G))))) → W p l e R s m args below meth c H locs (h.length - h0.length) (am_sz h - am_sz h0) Q (F0 m pc ls (S.map (am_cv (am_gf G))))) : am_P p l e R s m args below meth c Q G h0 h' nL pc L S h := by
  obtain ⟨⟨m1, m2⟩, hP⟩ := hP
  rw [List.length_set] at m1
  rw [am_sz_set h a c0 d0 hk hs] at m2
  refine ⟨⟨m1, m2⟩, fun H locs ls dy lr => F H locs ls dy lr fun H1 Ls e1 z oq hL => ?_⟩
  have := hP H1 _ ls (dy.puts hk hs e1 z oq hL) lr
  rw [List.length_set, am_sz_set h a c0 d0 hk hs] at this
  exact this
theorem am_put1 (hc : am_X G d k h0 h' p R s m args meth c) {pc idx ci j a : Nat} {L S : List Value} {h : am_H} {ft : FieldType} {fs : List Value} {v : Value} (hd : decode k.2.1 pc = .ok (.putfield idx, 3)) (hok : am_okP k.1.cls idx ci j ft) (hk : h[a]? = some (.inr (ci, fs))) (hl : j < fs.length)
    (hn : narrow ft (am_cv (am_gf G) v) = am_cv (am_gf G) v) (hfit : fits ft (am_cv (am_gf G) v) = true) (hP : am_P p l e R s m args below meth c Q G h0 h' k.2.2.1 (pc + 3) L S (h.set a (.inr (ci, fs.set j v)))) : am_P p l e R s m args below meth c Q G h0 h' k.2.2.1 pc L (v :: .ref (a + 2) :: S) h := by
  obtain ⟨C, T, N, ty, ⟨k1, k2, k3, k4⟩, hj, hw, hfin, hpd⟩ := hok
  refine am_set hk (by simp [am_sc]) hP fun H locs ls dy lr kk => ?_
  have hts := hc.2.2.2.2.1
  have hK := hc.2.2.2.2.2.1.1
  have hap := va_apart (own := k.1.cls) hts k2 ty k3 k4 hK k1
  obtain ⟨r0, h1, cell, q1, q2, q3, q4⟩ := dy.2.1 a _ (am_ws_at hk)
  have hr : r0 = (C, T, N) := Option.some.inj (h1.symm.trans k1)
  subst hr
  obtain ⟨hS, hfc, kC, hkC, hkind⟩ := hK.1 ci _ k1
  obtain ⟨cf, kf, fi, f, hi, hsl⟩ := hS j hj
  have hlay := hts _ (k2 _ (u_in_lay hj))
  unfold u_lay at hlay
  rw [if_neg (by rw [hfin]; decide)] at hlay
  have hst := (u_facts hfc hkC (u_lays hts k2 hj) hi).1
  have h6 := u_store hfc hkC hkind hlay hi hpd hn hfit
  refine W.putK hc.1 hc.2.1 (f := f) ⟨hc.2.2.2.1, hts _ hw, ⟨_, _, _, hi⟩, hst⟩ (by rw [q2]; exact h6) q1 q3 (by rw [hsl]; exact k2_hasslot (q4 j hj)) rfl rfl hd fun H' e1 e2 e3 => ?_
  rw [hsl] at e1 ⊢
  refine kk H' _ ⟨_, k1, t_OB.to (V := updV (vp_V (fs.map (am_cv (am_gf G)))) j (am_cv (am_gf G) v)) ⟨_, e1, q2, q3, t_set q4 hap hj _⟩ (fun x _ => ?_)⟩ e2 e3
  rw [vp_updV_set (by simpa using hl), List.map_set]
theorem am_put2 (hc : am_X G d k h0 h' p R s m args meth c) {pc idx ci j a : Nat} {L S : List Value} {h : am_H} {ft : FieldType} {fs : List Value} {v : Value} (hd : decode k.2.1 pc = .ok (.putfield idx, 3)) (hok : am_okPF k.1.cls idx ci j ft) (hin2 : k.1.name = "<init>") (hk : h[a]? = some (.inr (ci, fs))) (hl : j < fs.length)
    (hn : narrow ft (am_cv (am_gf G) v) = am_cv (am_gf G) v) (hfit : fits ft (am_cv (am_gf G) v) = true) (hP : am_P p l e R s m args below meth c Q G h0 h' k.2.2.1 (pc + 3) L S (h.set a (.inr (ci, fs.set j v)))) : am_P p l e R s m args below meth c Q G h0 h' k.2.2.1 pc L (v :: .ref (a + 2) :: S) h := by
  obtain ⟨C, T, N, ty, ⟨k1, k2, k3, k4⟩, hj, hw, hfin, hdecl, hpd⟩ := hok
  refine am_set hk (by simp [am_sc]) hP fun H locs ls dy lr kk => ?_
  have hts := hc.2.2.2.2.1
  have hK := hc.2.2.2.2.2.1.1
  have hown := hc.2.2.2.1
  have hap := va_apart (own := k.1.cls) hts k2 ty k3 k4 hK k1
  obtain ⟨r0, h1, cell, q1, q2, q3, q4⟩ := dy.2.1 a _ (am_ws_at hk)
  have hr : r0 = (C, T, N) := Option.some.inj (h1.symm.trans k1)
  subst hr
  obtain ⟨hS, hfc, kC, hkC, hkind⟩ := hK.1 ci _ k1
  obtain ⟨cf, kf, fi, f, hi, hsl⟩ := hS j hj
  have hlay := hts _ (k2 _ (u_in_lay hj))
  unfold u_lay at hlay
  rw [if_pos hfin] at hlay
  have hst := (u_facts hfc hkC (u_lays hts k2 hj) hi).1
  have hcf : m.cls = cf := by
    obtain ⟨_, _, c', _, _, _, -, -, hf', -, -, -, hown2, -⟩ := Cond.laysFinal_spec hlay
    have e1 : c' = cf := by have := hi.symm.trans hf'; simp at this; exact this.1.symm
    rw [hdecl] at hown2
    rw [← e1]; exact Option.some.inj (hown.symm.trans hown2)
  have h6 := u_fits hfc hkC hkind (Or.inr hlay) hi hpd hn hfit
  refine W.putFinK hc.1 hc.2.1 hown (hts _ hw) hi hst hcf (hc.2.2.2.2.2.2.1 hin2) (by rw [q2]; exact h6) q1 q3 (by rw [hsl]; exact k2_hasslot (q4 j hj)) rfl rfl hd fun H' e1 e2 e3 => ?_
  rw [hsl] at e1 ⊢
  refine kk H' _ ⟨_, k1, t_OB.to (V := updV (vp_V (fs.map (am_cv (am_gf G)))) j (am_cv (am_gf G) v)) ⟨_, e1, q2, q3, t_set q4 hap hj _⟩ (fun x _ => ?_)⟩ e2 e3
  rw [vp_updV_set (by simpa using hl), List.map_set]
/-- a new cell at the end -/
theorem am_D.push {h : am_H} {H H1 : Heap} {locs : List Loc} {x : am_C} (dy : am_D G s h0 h H locs) (e1 : va_at G.1 vwCl (am_gB G + h.length, am_E (am_gf G) (am_gA G) x) H1) (z1 : H1.size = H.size + 1) (o1 : ∀ q : Nat, q < H.size → H1[q]? = H[q]?) : am_D G s h0 (h ++ [x]) H1 locs := by
  obtain ⟨d1, d2, d3, d4, d5⟩ := dy
  refine ⟨by rw [z1, d1]; simp; omega, ?_, ⟨by rw [z1]; exact Nat.le_succ_of_le d3.1, fun q g1 g2 => (o1 q (Nat.lt_of_lt_of_le g1 d3.1)).trans (d3.2.1 q g1 g2), d3.2.2⟩, by simp; omega, by rw [am_sz_app]; omega⟩
  unfold am_gw
  rw [am_ws_app]
  refine va_P.app (d2.kept (fun k9 y hy => o1 y.1 ((d2 k9 y hy).lt))) (fun k9 y hy => ?_)
  have hz : k9 < 1 := (List.getElem?_eq_some_iff.mp hy).1
  rw [show k9 = 0 by omega] at hy
  cases hy
  exact e1
theorem am_go {H : Heap} {locs : List Loc} {pc : Nat} {ls : Array Slot} {st0 rest : List Value} {r1 : Option Value} {h h1 : am_H} {av : Array Value} (hr : va_Run p l e R s m args below meth c H locs (h.length - h0.length) (am_sz h - am_sz h0) (h1.length - h.length) (am_sz h1 - am_sz h) (F0 m pc ls st0) rest (am_Q G r1 h1 av) (am_up G))
    (dy : am_D G s h0 h H locs) (m1 : h.length ≤ h1.length) (m2 : am_sz h ≤ am_sz h1)
    (kk : ∀ (H1 : Heap) (locs1 : List Loc), am_D G s h0 h1 H1 locs1 → W p l e R s m args below meth c H1 locs1 (h1.length - h0.length) (am_sz h1 - am_sz h0) Q (F0 m (pc + 3) ls ((r1.map (am_cv (am_gf G))).toList ++ rest))) : W p l e R s m args below meth c H locs (h.length - h0.length) (am_sz h - am_sz h0) Q (F0 m pc ls st0) := by
  intro T hT X
  obtain ⟨v, st₀, t, T', L, e0, X', hL, e1, e2, ⟨hv, ⟨w1, w2, -⟩, hz, hq⟩, st⟩ := hr T hT X
  obtain ⟨d1, d2, d3, d4, d5⟩ := dy
  have hv' : v = r1.map (am_cv (am_gf G)) := by simpa using hv
  subst hv'
  rw [e0] at hz hq
  rw [show h.length - h0.length + (h1.length - h.length) = h1.length - h0.length by omega, show am_sz h - am_sz h0 + (am_sz h1 - am_sz h) = am_sz h1 - am_sz h0 by omega] at X'
  obtain ⟨t2, a1, b1⟩ := kk T'.heap (locs ++ L) ⟨by rw [e1]; exact w1, by rw [e1]; exact w2, ⟨by rw [e1]; exact Nat.le_trans d3.1 hz, fun q g1 g2 => by rw [e1, hq q (Nat.lt_of_lt_of_le g1 d3.1) g2]; exact d3.2.1 q g1 g2, fun q hq2 => (List.mem_append.mp hq2).elim (d3.2.2 q) (hL q)⟩, Nat.le_trans d4 m1, Nat.le_trans d5 m2⟩ T' rfl X'
  exact ⟨t2, st t2 a1, b1⟩
theorem am_nat {pc : Nat} {ls : Array Slot} {st rest : List Value} {n x dd : Nat} (h1 : (rest.map fun v => v.category).sum = n) (h2 : n ≤ 8) (h3 : 64 * (dd + 2) ≤ x) : 2 * (F0 m pc ls st).monitorRoom + (rest.map fun v => v.category).sum + (nativeFrameWords "java/lang/System" "arraycopy" 5 + 11) ≤ x := by
  have h4 : nativeFrameWords "java/lang/System" "arraycopy" 5 ≤ 40 := by decide
  have h5 := lv_room (m := m) (pc := pc) (ls := ls) (rest := st) (st := rest) (by rw [h1]; exact h2)
  omega
theorem am_pre (hc : am_X G d k h0 h' p R s m args meth c) {h : am_H} {H : Heap} {locs : List Loc} (dy : am_D G s h0 h H locs) {U : State} (hU : U.heap = H) (hW : s.WarmedH U.vm) : am_W G h U :=
  ⟨by rw [hU]; exact dy.1, by rw [hU]; exact dy.2.1, hc.2.2.2.2.2.1.moved hW (by rw [hU]; exact dy.2.2.1)⟩
end HEAD
section SOUND
variable {p : Program} {l : Launch} {e : Env} {R : Room} {s : State} {m : MethodId} {args : Array Value} {below : List Frame} {meth : Method} {c : Code} {Q : State → Prop} {G : am_G} {d : Nat} {k : am_K} {r : Option Value} {h0 h' : am_H} {Cr : am_R}
theorem am_s_iconst (hc : am_X G d k h0 h' p R s m args meth c) : am_r_iconst  k (am_P p l e R s m args below meth c Q G h0 h' k.2.2.1) := by
  intro pc L S h n v hd hv hP
  exact ⟨hP.1, fun H locs ls dy lr => lv_iconst hc.1 hc.2.1 hd hv (hP.2 H locs ls dy lr)⟩
theorem am_s_bipush (hc : am_X G d k h0 h' p R s m args meth c) : am_r_bipush  k (am_P p l e R s m args below meth c Q G h0 h' k.2.2.1) := by
  intro pc L S h n v hd hv hP
  exact ⟨hP.1, fun H locs ls dy lr => lv_bipush hc.1 hc.2.1 hd hv (hP.2 H locs ls dy lr)⟩
theorem am_s_sipush (hc : am_X G d k h0 h' p R s m args meth c) : am_r_sipush  k (am_P p l e R s m args below meth c Q G h0 h' k.2.2.1) := by
  intro pc L S h n v hd hv hP
  exact ⟨hP.1, fun H locs ls dy lr => lv_sipush hc.1 hc.2.1 hd hv (hP.2 H locs ls dy lr)⟩
theorem am_s_lconst (hc : am_X G d k h0 h' p R s m args meth c) : am_r_lconst  k (am_P p l e R s m args below meth c Q G h0 h' k.2.2.1) := by
  intro pc L S h n v hd hv hP
  exact ⟨hP.1, fun H locs ls dy lr => lv_lconst hc.1 hc.2.1 hd hv (hP.2 H locs ls dy lr)⟩
theorem am_s_iload_n (hc : am_X G d k h0 h' p R s m args meth c) : am_r_iload_n  k (am_P p l e R s m args below meth c Q G h0 h' k.2.2.1) := by
  intro pc L S h q x hd hl hP
  exact ⟨hP.1, fun H locs ls dy lr => lv_iload_n hc.1 hc.2.1 hd rfl (lr.2.2 _ _ hl (fun q => by cases q)) (hP.2 H locs ls dy lr)⟩
theorem am_s_iload (hc : am_X G d k h0 h' p R s m args meth c) : am_r_iload  k (am_P p l e R s m args below meth c Q G h0 h' k.2.2.1) := by
  intro pc L S h q x hd hl hP
  exact ⟨hP.1, fun H locs ls dy lr => lv_iload hc.1 hc.2.1 hd (lr.2.2 _ _ hl (fun q => by cases q)) (hP.2 H locs ls dy lr)⟩
theorem am_s_istore_n (hc : am_X G d k h0 h' p R s m args meth c) : am_r_istore_n  k (am_P p l e R s m args below meth c Q G h0 h' k.2.2.1) := by
  intro pc L S h q x hd hn hP
  exact ⟨hP.1, fun H locs ls dy lr => lv_istore_n hc.1 hc.2.1 hd rfl lr.has hn rfl (fun ls' hl' => hP.2 H locs ls' dy (am_L.st1 (v := .int x) hl'))⟩
theorem am_s_istore (hc : am_X G d k h0 h' p R s m args meth c) : am_r_istore  k (am_P p l e R s m args below meth c Q G h0 h' k.2.2.1) := by
  intro pc L S h q x hd hn hP
  exact ⟨hP.1, fun H locs ls dy lr => lv_istore hc.1 hc.2.1 hd lr.has hn rfl (fun ls' hl' => hP.2 H locs ls' dy (am_L.st1 (v := .int x) hl'))⟩
theorem am_s_lload_n (hc : am_X G d k h0 h' p R s m args meth c) : am_r_lload_n  k (am_P p l e R s m args below meth c Q G h0 h' k.2.2.1) := by
  intro pc L S h q x hd hl hP
  exact ⟨hP.1, fun H locs ls dy lr => lv_lload_n hc.1 hc.2.1 hd rfl (lr.2.2 _ _ hl (fun q => by cases q)) (hP.2 H locs ls dy lr)⟩
theorem am_s_lload (hc : am_X G d k h0 h' p R s m args meth c) : am_r_lload  k (am_P p l e R s m args below meth c Q G h0 h' k.2.2.1) := by
  intro pc L S h q x hd hl hP
  exact ⟨hP.1, fun H locs ls dy lr => lv_lload hc.1 hc.2.1 hd (lr.2.2 _ _ hl (fun q => by cases q)) (hP.2 H locs ls dy lr)⟩
theorem am_s_lstore_n (hc : am_X G d k h0 h' p R s m args meth c) : am_r_lstore_n  k (am_P p l e R s m args below meth c Q G h0 h' k.2.2.1) := by
  intro pc L S h q x hd hn hP
  exact ⟨hP.1, fun H locs ls dy lr => lv_lstore_n hc.1 hc.2.1 hd rfl lr.has hn rfl (fun ls' hl' => hP.2 H locs ls' dy (am_L.st2 (v := .long x) hl'))⟩
theorem am_s_lstore (hc : am_X G d k h0 h' p R s m args meth c) : am_r_lstore  k (am_P p l e R s m args below meth c Q G h0 h' k.2.2.1) := by
  intro pc L S h q x hd hn hP
  exact ⟨hP.1, fun H locs ls dy lr => lv_lstore hc.1 hc.2.1 hd lr.has hn rfl (fun ls' hl' => hP.2 H locs ls' dy (am_L.st2 (v := .long x) hl'))⟩
theorem am_s_aload_n (hc : am_X G d k h0 h' p R s m args meth c) : am_r_aload_n  k (am_P p l e R s m args below meth c Q G h0 h' k.2.2.1) := by
  intro pc L S h q x hd hl hP
  exact ⟨hP.1, fun H locs ls dy lr => lv_aload_n hc.1 hc.2.1 hd rfl (lr.2.2 _ _ hl (fun q => by cases q)) (hP.2 H locs ls dy lr)⟩
theorem am_s_aload (hc : am_X G d k h0 h' p R s m args meth c) : am_r_aload  k (am_P p l e R s m args below meth c Q G h0 h' k.2.2.1) := by
  intro pc L S h q x hd hl hP
  exact ⟨hP.1, fun H locs ls dy lr => lv_aload hc.1 hc.2.1 hd (lr.2.2 _ _ hl (fun q => by cases q)) (hP.2 H locs ls dy lr)⟩
theorem am_s_astore_n (hc : am_X G d k h0 h' p R s m args meth c) : am_r_astore_n  k (am_P p l e R s m args below meth c Q G h0 h' k.2.2.1) := by
  intro pc L S h q x hd hn hP
  exact ⟨hP.1, fun H locs ls dy lr => lv_astore_n hc.1 hc.2.1 hd rfl lr.has hn rfl (fun ls' hl' => hP.2 H locs ls' dy (am_L.st1 (v := .ref x) hl'))⟩
theorem am_s_astore (hc : am_X G d k h0 h' p R s m args meth c) : am_r_astore  k (am_P p l e R s m args below meth c Q G h0 h' k.2.2.1) := by
  intro pc L S h q x hd hn hP
  exact ⟨hP.1, fun H locs ls dy lr => lv_astore hc.1 hc.2.1 hd lr.has hn rfl (fun ls' hl' => hP.2 H locs ls' dy (am_L.st1 (v := .ref x) hl'))⟩
theorem am_s_iinc (hc : am_X G d k h0 h' p R s m args meth c) : am_r_iinc  k (am_P p l e R s m args below meth c Q G h0 h' k.2.2.1) := by
  intro pc L S h q n x v hd hl hv hn hP
  refine ⟨hP.1, fun H locs ls dy lr => ?_⟩
  have hm := am_pr_mem (am_gf G) L 0 q (.int x) hl (fun q => by cases q)
  rw [Nat.zero_add] at hm
  obtain ⟨kk, hkk⟩ := List.getElem?_of_mem hm
  exact lv_iinc hc.1 hc.2.1 hd lr.has hkk hv hn rfl (fun ls' hl' => hP.2 H locs ls' dy (am_L.st1 (v := .int v) hl'))
theorem am_s_iadd (hc : am_X G d k h0 h' p R s m args meth c) : am_r_iadd  k (am_P p l e R s m args below meth c Q G h0 h' k.2.2.1) := by
  intro pc L S h x y hd  hP
  exact ⟨hP.1, fun H locs ls dy lr => lv_iadd hc.1 hc.2.1 hd (hP.2 H locs ls dy lr)⟩
theorem am_s_isub (hc : am_X G d k h0 h' p R s m args meth c) : am_r_isub  k (am_P p l e R s m args below meth c Q G h0 h' k.2.2.1) := by
  intro pc L S h x y hd  hP
  exact ⟨hP.1, fun H locs ls dy lr => lv_isub hc.1 hc.2.1 hd (hP.2 H locs ls dy lr)⟩
theorem am_s_imul (hc : am_X G d k h0 h' p R s m args meth c) : am_r_imul  k (am_P p l e R s m args below meth c Q G h0 h' k.2.2.1) := by
  intro pc L S h x y hd  hP
  exact ⟨hP.1, fun H locs ls dy lr => lv_imul hc.1 hc.2.1 hd (hP.2 H locs ls dy lr)⟩
theorem am_s_iand (hc : am_X G d k h0 h' p R s m args meth c) : am_r_iand  k (am_P p l e R s m args below meth c Q G h0 h' k.2.2.1) := by
  intro pc L S h x y hd  hP
  exact ⟨hP.1, fun H locs ls dy lr => lv_iand hc.1 hc.2.1 hd (hP.2 H locs ls dy lr)⟩
theorem am_s_ior (hc : am_X G d k h0 h' p R s m args meth c) : am_r_ior  k (am_P p l e R s m args below meth c Q G h0 h' k.2.2.1) := by
  intro pc L S h x y hd  hP
  exact ⟨hP.1, fun H locs ls dy lr => lv_ior hc.1 hc.2.1 hd (hP.2 H locs ls dy lr)⟩
theorem am_s_ixor (hc : am_X G d k h0 h' p R s m args meth c) : am_r_ixor  k (am_P p l e R s m args below meth c Q G h0 h' k.2.2.1) := by
  intro pc L S h x y hd  hP
  exact ⟨hP.1, fun H locs ls dy lr => lv_ixor hc.1 hc.2.1 hd (hP.2 H locs ls dy lr)⟩
theorem am_s_ishl (hc : am_X G d k h0 h' p R s m args meth c) : am_r_ishl  k (am_P p l e R s m args below meth c Q G h0 h' k.2.2.1) := by
  intro pc L S h x y hd  hP
  exact ⟨hP.1, fun H locs ls dy lr => lv_ishl hc.1 hc.2.1 hd (hP.2 H locs ls dy lr)⟩
theorem am_s_ishr (hc : am_X G d k h0 h' p R s m args meth c) : am_r_ishr  k (am_P p l e R s m args below meth c Q G h0 h' k.2.2.1) := by
  intro pc L S h x y hd  hP
  exact ⟨hP.1, fun H locs ls dy lr => lv_ishr hc.1 hc.2.1 hd (hP.2 H locs ls dy lr)⟩
theorem am_s_iushr (hc : am_X G d k h0 h' p R s m args meth c) : am_r_iushr  k (am_P p l e R s m args below meth c Q G h0 h' k.2.2.1) := by
  intro pc L S h x y hd  hP
  exact ⟨hP.1, fun H locs ls dy lr => lv_iushr hc.1 hc.2.1 hd rfl (hP.2 H locs ls dy lr)⟩
theorem am_s_idiv (hc : am_X G d k h0 h' p R s m args meth c) : am_r_idiv  k (am_P p l e R s m args below meth c Q G h0 h' k.2.2.1) := by
  intro pc L S h x y hd hne hP
  exact ⟨hP.1, fun H locs ls dy lr => lv_idiv hc.1 hc.2.1 hd hne (hP.2 H locs ls dy lr)⟩
theorem am_s_irem (hc : am_X G d k h0 h' p R s m args meth c) : am_r_irem  k (am_P p l e R s m args below meth c Q G h0 h' k.2.2.1) := by
  intro pc L S h x y hd hne hP
  exact ⟨hP.1, fun H locs ls dy lr => lv_irem hc.1 hc.2.1 hd hne (hP.2 H locs ls dy lr)⟩
theorem am_s_ladd (hc : am_X G d k h0 h' p R s m args meth c) : am_r_ladd  k (am_P p l e R s m args below meth c Q G h0 h' k.2.2.1) := by
  intro pc L S h x y hd  hP
  exact ⟨hP.1, fun H locs ls dy lr => lv_ladd hc.1 hc.2.1 hd (hP.2 H locs ls dy lr)⟩
theorem am_s_lsub (hc : am_X G d k h0 h' p R s m args meth c) : am_r_lsub  k (am_P p l e R s m args below meth c Q G h0 h' k.2.2.1) := by
  intro pc L S h x y hd  hP
  exact ⟨hP.1, fun H locs ls dy lr => lv_lsub hc.1 hc.2.1 hd (hP.2 H locs ls dy lr)⟩
theorem am_s_lmul (hc : am_X G d k h0 h' p R s m args meth c) : am_r_lmul  k (am_P p l e R s m args below meth c Q G h0 h' k.2.2.1) := by
  intro pc L S h x y hd  hP
  exact ⟨hP.1, fun H locs ls dy lr => lv_lmul hc.1 hc.2.1 hd (hP.2 H locs ls dy lr)⟩
theorem am_s_ldiv (hc : am_X G d k h0 h' p R s m args meth c) : am_r_ldiv  k (am_P p l e R s m args below meth c Q G h0 h' k.2.2.1) := by
  intro pc L S h x y hd hne hP
  exact ⟨hP.1, fun H locs ls dy lr => lv_ldiv hc.1 hc.2.1 hd hne (hP.2 H locs ls dy lr)⟩
theorem am_s_lrem (hc : am_X G d k h0 h' p R s m args meth c) : am_r_lrem  k (am_P p l e R s m args below meth c Q G h0 h' k.2.2.1) := by
  intro pc L S h x y hd hne hP
  exact ⟨hP.1, fun H locs ls dy lr => lv_lrem hc.1 hc.2.1 hd hne (hP.2 H locs ls dy lr)⟩
theorem am_s_i2l (hc : am_X G d k h0 h' p R s m args meth c) : am_r_i2l  k (am_P p l e R s m args below meth c Q G h0 h' k.2.2.1) := by
  intro pc L S h x hd  hP
  exact ⟨hP.1, fun H locs ls dy lr => lv_i2l hc.1 hc.2.1 hd rfl (hP.2 H locs ls dy lr)⟩
theorem am_s_l2i (hc : am_X G d k h0 h' p R s m args meth c) : am_r_l2i  k (am_P p l e R s m args below meth c Q G h0 h' k.2.2.1) := by
  intro pc L S h x hd  hP
  exact ⟨hP.1, fun H locs ls dy lr => lv_l2i hc.1 hc.2.1 hd rfl (hP.2 H locs ls dy lr)⟩
theorem am_s_i2b (hc : am_X G d k h0 h' p R s m args meth c) : am_r_i2b  k (am_P p l e R s m args below meth c Q G h0 h' k.2.2.1) := by
  intro pc L S h x hd  hP
  exact ⟨hP.1, fun H locs ls dy lr => lv_i2b hc.1 hc.2.1 hd rfl (hP.2 H locs ls dy lr)⟩
theorem am_s_lcmp (hc : am_X G d k h0 h' p R s m args meth c) : am_r_lcmp  k (am_P p l e R s m args below meth c Q G h0 h' k.2.2.1) := by
  intro pc L S h x y hd  hP
  exact ⟨hP.1, fun H locs ls dy lr => W.lcmp hc.1 hc.2.1 hd (hP.2 H locs ls dy lr)⟩
theorem am_s_dup (hc : am_X G d k h0 h' p R s m args meth c) : am_r_dup  k (am_P p l e R s m args below meth c Q G h0 h' k.2.2.1) := by
  intro pc L S h v hd hv hP
  exact ⟨hP.1, fun H locs ls dy lr => lv_dup hc.1 hc.2.1 hd (by rw [am_cv_cat]; exact hv) (hP.2 H locs ls dy lr)⟩
theorem am_s_pop (hc : am_X G d k h0 h' p R s m args meth c) : am_r_pop  k (am_P p l e R s m args below meth c Q G h0 h' k.2.2.1) := by
  intro pc L S h v hd hv hP
  exact ⟨hP.1, fun H locs ls dy lr => lv_pop hc.1 hc.2.1 hd (by rw [am_cv_cat]; exact hv) (hP.2 H locs ls dy lr)⟩
theorem am_s_dup2 (hc : am_X G d k h0 h' p R s m args meth c) : am_r_dup2  k (am_P p l e R s m args below meth c Q G h0 h' k.2.2.1) := by
  intro pc L S h v w hd hv hw hP
  exact ⟨hP.1, fun H locs ls dy lr => lv_dup2_11 hc.1 hc.2.1 hd (by rw [am_cv_cat]; exact hv) (by rw [am_cv_cat]; exact hw) (hP.2 H locs ls dy lr)⟩
theorem am_s_if_eq (hc : am_X G d k h0 h' p R s m args meth c) : am_r_if_eq  k (am_P p l e R s m args below meth c Q G h0 h' k.2.2.1) := by
  intro pc L S h x off tgt hd ht hT hF
  refine ⟨?_, fun H locs ls dy lr => lv_if_eq hc.1 hc.2.1 hd ht (fun q => (hT q).2 H locs ls dy lr) (fun q => (hF q).2 H locs ls dy lr)⟩
  by_cases q : x = 0
  · exact (hT q).1
  · exact (hF q).1
theorem am_s_icmp_eq (hc : am_X G d k h0 h' p R s m args meth c) : am_r_icmp_eq  k (am_P p l e R s m args below meth c Q G h0 h' k.2.2.1) := by
  intro pc L S h x y off tgt hd ht hT hF
  refine ⟨?_, fun H locs ls dy lr => lv_icmp_eq hc.1 hc.2.1 hd ht (fun q => (hT q).2 H locs ls dy lr) (fun q => (hF q).2 H locs ls dy lr)⟩
  by_cases q : x = y
  · exact (hT q).1
  · exact (hF q).1
theorem am_s_if_ne (hc : am_X G d k h0 h' p R s m args meth c) : am_r_if_ne  k (am_P p l e R s m args below meth c Q G h0 h' k.2.2.1) := by
  intro pc L S h x off tgt hd ht hT hF
  refine ⟨?_, fun H locs ls dy lr => lv_if_ne hc.1 hc.2.1 hd ht (fun q => (hT q).2 H locs ls dy lr) (fun q => (hF q).2 H locs ls dy lr)⟩
  by_cases q : x = 0
  · exact (hF q).1
  · exact (hT q).1
theorem am_s_icmp_ne (hc : am_X G d k h0 h' p R s m args meth c) : am_r_icmp_ne  k (am_P p l e R s m args below meth c Q G h0 h' k.2.2.1) := by
  intro pc L S h x y off tgt hd ht hT hF
  refine ⟨?_, fun H locs ls dy lr => lv_icmp_ne hc.1 hc.2.1 hd ht (fun q => (hT q).2 H locs ls dy lr) (fun q => (hF q).2 H locs ls dy lr)⟩
  by_cases q : x = y
  · exact (hF q).1
  · exact (hT q).1
theorem am_s_if_lt (hc : am_X G d k h0 h' p R s m args meth c) : am_r_if_lt  k (am_P p l e R s m args below meth c Q G h0 h' k.2.2.1) := by
  intro pc L S h x off tgt hd ht hT hF
  refine ⟨?_, fun H locs ls dy lr => lv_if_lt hc.1 hc.2.1 hd ht (fun q => (hT q).2 H locs ls dy lr) (fun q => (hF q).2 H locs ls dy lr)⟩
  by_cases q : x < 0
  · exact (hT q).1
  · exact (hF q).1
theorem am_s_icmp_lt (hc : am_X G d k h0 h' p R s m args meth c) : am_r_icmp_lt  k (am_P p l e R s m args below meth c Q G h0 h' k.2.2.1) := by
  intro pc L S h x y off tgt hd ht hT hF
  refine ⟨?_, fun H locs ls dy lr => lv_icmp_lt hc.1 hc.2.1 hd ht (fun q => (hT q).2 H locs ls dy lr) (fun q => (hF q).2 H locs ls dy lr)⟩
  by_cases q : x < y
  · exact (hT q).1
  · exact (hF q).1
theorem am_s_if_ge (hc : am_X G d k h0 h' p R s m args meth c) : am_r_if_ge  k (am_P p l e R s m args below meth c Q G h0 h' k.2.2.1) := by
  intro pc L S h x off tgt hd ht hT hF
  refine ⟨?_, fun H locs ls dy lr => lv_if_ge hc.1 hc.2.1 hd ht (fun q => (hT q).2 H locs ls dy lr) (fun q => (hF q).2 H locs ls dy lr)⟩
  by_cases q : 0 ≤ x
  · exact (hT q).1
  · exact (hF q).1
theorem am_s_icmp_ge (hc : am_X G d k h0 h' p R s m args meth c) : am_r_icmp_ge  k (am_P p l e R s m args below meth c Q G h0 h' k.2.2.1) := by
  intro pc L S h x y off tgt hd ht hT hF
  refine ⟨?_, fun H locs ls dy lr => lv_icmp_ge hc.1 hc.2.1 hd ht (fun q => (hT q).2 H locs ls dy lr) (fun q => (hF q).2 H locs ls dy lr)⟩
  by_cases q : y ≤ x
  · exact (hT q).1
  · exact (hF q).1
theorem am_s_if_gt (hc : am_X G d k h0 h' p R s m args meth c) : am_r_if_gt  k (am_P p l e R s m args below meth c Q G h0 h' k.2.2.1) := by
  intro pc L S h x off tgt hd ht hT hF
  refine ⟨?_, fun H locs ls dy lr => lv_if_gt hc.1 hc.2.1 hd ht (fun q => (hT q).2 H locs ls dy lr) (fun q => (hF q).2 H locs ls dy lr)⟩
  by_cases q : 0 < x
  · exact (hT q).1
  · exact (hF q).1
theorem am_s_icmp_gt (hc : am_X G d k h0 h' p R s m args meth c) : am_r_icmp_gt  k (am_P p l e R s m args below meth c Q G h0 h' k.2.2.1) := by
  intro pc L S h x y off tgt hd ht hT hF
  refine ⟨?_, fun H locs ls dy lr => lv_icmp_gt hc.1 hc.2.1 hd ht (fun q => (hT q).2 H locs ls dy lr) (fun q => (hF q).2 H locs ls dy lr)⟩
  by_cases q : y < x
  · exact (hT q).1
  · exact (hF q).1
theorem am_s_if_le (hc : am_X G d k h0 h' p R s m args meth c) : am_r_if_le  k (am_P p l e R s m args below meth c Q G h0 h' k.2.2.1) := by
  intro pc L S h x off tgt hd ht hT hF
  refine ⟨?_, fun H locs ls dy lr => lv_if_le hc.1 hc.2.1 hd ht (fun q => (hT q).2 H locs ls dy lr) (fun q => (hF q).2 H locs ls dy lr)⟩
  by_cases q : x ≤ 0
  · exact (hT q).1
  · exact (hF q).1
theorem am_s_icmp_le (hc : am_X G d k h0 h' p R s m args meth c) : am_r_icmp_le  k (am_P p l e R s m args below meth c Q G h0 h' k.2.2.1) := by
  intro pc L S h x y off tgt hd ht hT hF
  refine ⟨?_, fun H locs ls dy lr => lv_icmp_le hc.1 hc.2.1 hd ht (fun q => (hT q).2 H locs ls dy lr) (fun q => (hF q).2 H locs ls dy lr)⟩
  by_cases q : x ≤ y
  · exact (hT q).1
  · exact (hF q).1
theorem am_s_goto (hc : am_X G d k h0 h' p R s m args meth c) : am_r_goto  k (am_P p l e R s m args below meth c Q G h0 h' k.2.2.1) := by
  intro pc L S h off tgt hd ht hP
  exact ⟨hP.1, fun H locs ls dy lr => lv_goto hc.1 hc.2.1 hd ht (hP.2 H locs ls dy lr)⟩
theorem am_s_tableIn (hc : am_X G d k h0 h' p R s m args meth c) : am_r_tableIn  k (am_P p l e R s m args below meth c Q G h0 h' k.2.2.1) := by
  intro pc L S h x dflt lo hi offs len off tgt hd h1 h2 ho ht hP
  exact ⟨hP.1, fun H locs ls dy lr => lv_tableIn hc.1 hc.2.1 hd h1 h2 ho ht (hP.2 H locs ls dy lr)⟩
theorem am_s_tableOut (hc : am_X G d k h0 h' p R s m args meth c) : am_r_tableOut  k (am_P p l e R s m args below meth c Q G h0 h' k.2.2.1) := by
  intro pc L S h x dflt lo hi offs len tgt hd h1 ht hP
  exact ⟨hP.1, fun H locs ls dy lr => lv_tableOut hc.1 hc.2.1 hd h1 ht (hP.2 H locs ls dy lr)⟩
theorem am_s_ldc (hc : am_X G d k h0 h' p R s m args meth c) : am_r_ldc  k (am_P p l e R s m args below meth c Q G h0 h' k.2.2.1) := by
  intro pc L S h idx v hd hw hP
  exact ⟨hP.1, fun H locs ls dy lr => lv_ldc hc.1 hc.2.1 hc.2.2.2.1 (hc.2.2.2.2.1 _ hw) hd (hP.2 H locs ls dy lr)⟩
theorem am_s_ldc_w (hc : am_X G d k h0 h' p R s m args meth c) : am_r_ldc_w  k (am_P p l e R s m args below meth c Q G h0 h' k.2.2.1) := by
  intro pc L S h idx v hd hw hP
  exact ⟨hP.1, fun H locs ls dy lr => lv_ldcw hc.1 hc.2.1 hc.2.2.2.1 (hc.2.2.2.2.1 _ hw) hd (hP.2 H locs ls dy lr)⟩
theorem am_s_ldc2 (hc : am_X G d k h0 h' p R s m args meth c) : am_r_ldc2  k (am_P p l e R s m args below meth c Q G h0 h' k.2.2.1) := by
  intro pc L S h idx v hd hw hP
  exact ⟨hP.1, fun H locs ls dy lr => lv_ldc2 hc.1 hc.2.1 hc.2.2.2.1 (hc.2.2.2.2.1 _ hw) hd (hP.2 H locs ls dy lr)⟩
theorem am_s_getLet (hc : am_X G d k h0 h' p R s m args meth c) : am_r_getLet  k (am_P p l e R s m args below meth c Q G h0 h' k.2.2.1) := by
  intro pc L S h idx host hd hw hP
  exact ⟨hP.1, fun H locs ls dy lr => va_getsN hc.1 hc.2.1 hc.2.2.2.2.2.1.2.2.2.2.1 dy.2.2.1 hc.2.2.2.1 (va_Nw.use rfl (hc.2.2.2.2.2.1.2.2.2.2.2.2.1 _ hw)) (fun _ h9 => h9) hd (hP.2 H locs ls dy lr)⟩
theorem am_s_getf (hc : am_X G d k h0 h' p R s m args meth c) : am_r_getf  k (am_P p l e R s m args below meth c Q G h0 h' k.2.2.1) := by
  intro pc L S h idx ci j a fs v hd hok hk hv hP
  obtain ⟨C, T, N, ty, ⟨k1, k2, k3, k4⟩, hj, hw⟩ := hok
  refine ⟨hP.1, fun H locs ls dy lr => ?_⟩
  exact va_get (D := G.1) (C := C) (T := T) (N := N) hc.1 hc.2.1 hc.2.2.2.2.1 k2 hc.2.2.2.1 hc.2.2.2.2.2.1.1 dy.2.1 a (am_ws_at hk) k1 j hj (hc.2.2.2.2.1 _ hw) (fun _ h9 => h9) (by simp [hv]) hd (hP.2 H locs ls dy lr)
theorem am_s_putI (hc : am_X G d k h0 h' p R s m args meth c) : am_r_putI  k (am_P p l e R s m args below meth c Q G h0 h' k.2.2.1) := by
  intro pc L S h idx ci j a fs x hd hok hk hl hP
  exact am_put1 hc hd hok hk hl rfl rfl hP
theorem am_s_putJ (hc : am_X G d k h0 h' p R s m args meth c) : am_r_putJ  k (am_P p l e R s m args below meth c Q G h0 h' k.2.2.1) := by
  intro pc L S h idx ci j a fs x hd hok hk hl hP
  exact am_put1 hc hd hok hk hl rfl rfl hP
theorem am_s_putF (hc : am_X G d k h0 h' p R s m args meth c) : am_r_putF  k (am_P p l e R s m args below meth c Q G h0 h' k.2.2.1) := by
  intro pc L S h idx ci j a ft fs v hd hok hin hk hl h1 h2 hP
  exact am_put2 hc hd hok hin hk hl (h1 _) (h2 _) hP
theorem am_s_iald (hc : am_X G d k h0 h' p R s m args meth c) : am_r_iald  k (am_P p l e R s m args below meth c Q G h0 h' k.2.2.1) := by
  intro pc L S h a n f i hd hk hi hP
  exact ⟨hP.1, fun H locs ls dy lr => va_iald hc.1 hc.2.1 hc.2.2.2.2.2.1.1 dy.2.1 a 0 (am_ws_at hk) rfl hi hd (hP.2 H locs ls dy lr)⟩
theorem am_s_sald (hc : am_X G d k h0 h' p R s m args meth c) : am_r_sald (am_gN G, am_gx G) k (am_P p l e R s m args below meth c Q G h0 h' k.2.2.1) := by
  intro pc L S h i hd hi hP
  exact ⟨hP.1, fun H locs ls dy lr => va_sld hc.1 hc.2.1 hc.2.2.2.2.2.1.2.1 (Nat.lt_of_lt_of_le hc.2.2.2.2.2.1.2.2.1 hc.2.2.2.2.2.1.2.2.2.1) (Nat.not_le.mpr hc.2.2.2.2.2.1.2.2.1) dy.2.2.1 hi hd (hP.2 H locs ls dy lr)⟩
theorem am_s_slen (hc : am_X G d k h0 h' p R s m args meth c) : am_r_slen (am_gN G, am_gx G) k (am_P p l e R s m args below meth c Q G h0 h' k.2.2.1) := by
  intro pc L S h hd hP
  exact ⟨hP.1, fun H locs ls dy lr => va_slen hc.1 hc.2.1 hc.2.2.2.2.2.1.2.1 (Nat.lt_of_lt_of_le hc.2.2.2.2.2.1.2.2.1 hc.2.2.2.2.2.1.2.2.2.1) (Nat.not_le.mpr hc.2.2.2.2.2.1.2.2.1) dy.2.2.1 hd (hP.2 H locs ls dy lr)⟩
theorem am_s_letld (hc : am_X G d k h0 h' p R s m args meth c) : am_r_letld  k (am_P p l e R s m args below meth c Q G h0 h' k.2.2.1) := by
  intro pc L S h i hd hi hP
  refine ⟨hP.1, fun H locs ls dy lr => ?_⟩
  obtain ⟨cell, t1, t2, t3, t4, t5, t6, t7⟩ := hc.2.2.2.2.2.1.2.2.2.2.2.1
  have hlt : i.toNatClampNeg < 6 := Nat.not_le.mp fun q => hi (Or.inr q)
  have hl := (Array.getElem?_eq_some_iff.mp t1).1
  exact W.iald (v := .int (am_let i.toNatClampNeg)) hc.1 hc.2.1 (a := am_gl G) (by rw [dy.2.2.1.2.1 _ hl t7]; exact t1) t2 t3 (fun q => q.elim (fun q => hi (Or.inl q)) (fun q => by omega)) (t6 _ hlt) rfl rfl hd (hP.2 H locs ls dy lr)
theorem am_s_bald (hc : am_X G d k h0 h' p R s m args meth c) : am_r_bald  k (am_P p l e R s m args below meth c Q G h0 h' k.2.2.1) := by
  intro pc L S h a n f i hd hk hi hP
  exact ⟨hP.1, fun H locs ls dy lr => va_bald hc.1 hc.2.1 hc.2.2.2.2.2.1.1 dy.2.1 a 1 (am_ws_at hk) rfl hi hd (hP.2 H locs ls dy lr)⟩
theorem am_s_lald (hc : am_X G d k h0 h' p R s m args meth c) : am_r_lald  k (am_P p l e R s m args below meth c Q G h0 h' k.2.2.1) := by
  intro pc L S h a n f i hd hk hi hP
  exact ⟨hP.1, fun H locs ls dy lr => va_lald hc.1 hc.2.1 hc.2.2.2.2.2.1.1 dy.2.1 a 2 (am_ws_at hk) rfl hi hd (hP.2 H locs ls dy lr)⟩
theorem am_s_aald (hc : am_X G d k h0 h' p R s m args meth c) : am_r_aald  k (am_P p l e R s m args below meth c Q G h0 h' k.2.2.1) := by
  intro pc L S h a t n q f i hd hk ht hi hq hP
  refine ⟨hP.1, fun H locs ls dy lr => ?_⟩
  have hlt : i.toNatClampNeg < n := Nat.not_le.mp fun q => hi (Or.inr q)
  have hcell := dy.2.1 a _ (am_ws_at hk)
  have ht1 : (am_tys (am_gA G))[t]? = some (am_gA G t, am_ty t) := by
    obtain ⟨ha, hb⟩ := ht
    match t, ha, hb with
    | 3, _, _ => rfl
    | 4, _, _ => rfl
    | 5, _, _ => rfl
    | 6, _, _ => rfl
    | 7, _, _ => rfl
  have ht2 : (am_ty t).isReference = true := by
    obtain ⟨ha, hb⟩ := ht
    match t, ha, hb with
    | 3, _, _ => rfl
    | 4, _, _ => rfl
    | 5, _, _ => rfl
    | 6, _, _ => rfl
    | 7, _, _ => rfl
  refine W.aald (v := .ref (am_gf G q)) (ty := am_ty t) hc.1 hc.2.1 (a := am_gB G + a) hcell ((hc.2.2.2.2.2.1.1.2 t _ ht1).1 n (fun j => va_rf ((f j).map (am_gf G)))) ht2 (fun q => by cases q) (by show ¬ (i < 0 ∨ (arrV _ _ _).slots.size ≤ _); rw [arrV_size]; exact hi) (by show (arrV (am_gA G t) n (fun j => va_rf ((f j).map (am_gf G)))).slots[_]? = _; rw [arrV_read _ _ hlt, hq]; rfl) rfl rfl hd (hP.2 H locs ls dy lr)
theorem am_s_iast (hc : am_X G d k h0 h' p R s m args meth c) : am_r_iast  k (am_P p l e R s m args below meth c Q G h0 h' k.2.2.1) := by
  intro pc L S h a n f i x hd hk hi hP
  refine am_set hk (by rfl) hP fun H locs ls dy lr kk => ?_
  refine W.iast hc.1 hc.2.1 (a := am_gB G + a) (dy.2.1 a _ (am_ws_at hk)) ((hc.2.2.2.2.2.1.1.2 0 _ rfl).1 n (fun j => .int (f j))) (fun q => by cases q) (by show ¬ (i < 0 ∨ (arrV _ _ _).slots.size ≤ _); rw [arrV_size]; exact hi) rfl rfl hd fun H1 e z oq => ?_
  refine kk H1 i.toNatClampNeg ?_ z oq
  show H1[am_gB G + a]? = some (vp_cell _ _)
  rw [e]
  show some ((vp_cell _ (n, .inl f)).setSlot _ _) = some (vp_cell _ (n, .inl (upd f i.toNatClampNeg x)))
  rw [vp_cell_i, vp_cell_i, arrV_store]
  congr 2
  funext q
  by_cases hq : q = i.toNatClampNeg
  · subst hq
    simp [updV, upd]
  · simp [updV, upd, hq]
theorem am_s_bast (hc : am_X G d k h0 h' p R s m args meth c) : am_r_bast  k (am_P p l e R s m args below meth c Q G h0 h' k.2.2.1) := by
  intro pc L S h a n f i x hd hk hi hP
  refine am_set hk (by rfl) hP fun H locs ls dy lr kk => ?_
  refine W.bast hc.1 hc.2.1 (a := am_gB G + a) (dy.2.1 a _ (am_ws_at hk)) ((hc.2.2.2.2.2.1.1.2 1 _ rfl).1 n (fun j => .int (f j))) (fun q => by cases q) (by show ¬ (i < 0 ∨ (arrV _ _ _).slots.size ≤ _); rw [arrV_size]; exact hi) rfl rfl hd fun H1 e z oq => ?_
  refine kk H1 i.toNatClampNeg ?_ z oq
  show H1[am_gB G + a]? = some (vp_cell _ _)
  rw [e]
  show some ((vp_cell _ (n, .inl f)).setSlot _ _) = some (vp_cell _ (n, .inl (upd f i.toNatClampNeg (vp_nar .byte x))))
  rw [vp_cell_i, vp_cell_i, arrV_store]
  congr 2
  funext q
  by_cases hq : q = i.toNatClampNeg
  · subst hq
    simp [updV, upd, vp_nar]
    try rfl
  · simp [updV, upd, hq]
theorem am_s_last (hc : am_X G d k h0 h' p R s m args meth c) : am_r_last  k (am_P p l e R s m args below meth c Q G h0 h' k.2.2.1) := by
  intro pc L S h a n f i x hd hk hi hP
  refine am_set hk (by rfl) hP fun H locs ls dy lr kk => ?_
  refine W.last hc.1 hc.2.1 (a := am_gB G + a) (dy.2.1 a _ (am_ws_at hk)) ((hc.2.2.2.2.2.1.1.2 2 _ rfl).1 n (fun j => .long (f j))) (fun q => by cases q) (by show ¬ (i < 0 ∨ (arrV _ _ _).slots.size ≤ _); rw [arrV_size]; exact hi) rfl rfl hd fun H1 e z oq => ?_
  refine kk H1 i.toNatClampNeg ?_ z oq
  show H1[am_gB G + a]? = some (vp_cell _ _)
  rw [e]
  show some ((vp_cell _ (n, .inr (.inl f))).setSlot _ _) = some (vp_cell _ (n, .inr (.inl (vp_updL f i.toNatClampNeg x))))
  rw [vp_cell_l, vp_cell_l, arrV_store]
  congr 2
  funext q
  by_cases hq : q = i.toNatClampNeg
  · subst hq
    simp [updV, vp_updL]
  · simp [updV, vp_updL, hq]
theorem am_s_aast (hc : am_X G d k h0 h' p R s m args meth c) : am_r_aast  k (am_P p l e R s m args below meth c Q G h0 h' k.2.2.1) := by
  intro pc L S h a t n b ci vs f i hd hk ht hb hcl hin hP
  obtain ⟨C, T, N, ty, ⟨k1, k2, k3, k4⟩, hty⟩ := hcl
  refine am_set hk (by rfl) hP fun H locs ls dy lr kk => ?_
  have hK := hc.2.2.2.2.2.1.1
  have ht1 : (am_tys (am_gA G))[t]? = some (am_gA G t, .object C) := by
    rw [← hty]
    match t, ht with
    | 0, _ => rfl
    | 1, _ => rfl
    | 2, _ => rfl
    | 3, _ => rfl
    | 4, _ => rfl
    | 5, _ => rfl
    | 6, _ => rfl
    | 7, _ => rfl
  have hlt : i.toNatClampNeg < n := Nat.not_le.mp fun q => hin (Or.inr q)
  have hi0 : ¬ i < 0 := fun q => hin (Or.inl q)
  obtain ⟨r', hr', cellV, g1, g2, g3, -⟩ := dy.2.1 b _ (am_ws_at hb)
  have hcls := (hK.1 ci _ k1).2
  obtain ⟨kA, comp, z1, z2, z3, -⟩ := (hK.2 t _ ht1).2
  have hcomp : comp = G.1.1 ci := Option.some.inj (z3.symm.trans hcls.1)
  subst hcomp
  obtain ⟨kC, hkC, -⟩ := hcls.2
  refine W.aast hc.1 hc.2.1 (a := am_gB G + a) (v := am_gB G + b) (dy.2.1 a _ (am_ws_at hk)) (fun q h => by cases h) (fun h => by cases h) z1 z2 rfl hkC ⟨hi0, by show _ < (arrV _ _ _).slots.size; rw [arrV_size]; exact hlt⟩ g1 (fun q h => by rw [g3] at h; cases h) (by rw [g2]; exact hkC) (by rw [g2]; exact va_assign hcls) rfl rfl hd fun H1 e z oq => ?_
  refine kk H1 i.toNatClampNeg ?_ z oq
  show H1[am_gB G + a]? = some (vp_cell _ _)
  rw [e]
  show some ((vp_cell _ (n, .inr (.inr (.inr (.inr (fun j => (f j).map (am_gf G))))))).setSlot _ _) = some (vp_cell _ (n, .inr (.inr (.inr (.inr (fun j => (va_up f i.toNatClampNeg (some (b + 2)) j).map (am_gf G)))))))
  rw [vp_cell_q, vp_cell_q, arrV_store]
  congr 2
  funext q
  by_cases hq : q = i.toNatClampNeg
  · subst hq
    simp [updV, va_up, va_rf, am_pv]
  · simp [updV, va_up, hq]
theorem am_s_alen (hc : am_X G d k h0 h' p R s m args meth c) : am_r_alen  k (am_P p l e R s m args below meth c Q G h0 h' k.2.2.1) := by
  intro pc L S h a t x hd hk ht hP
  refine ⟨hP.1, fun H locs ls dy lr => ?_⟩
  have ht1 : (am_tys (am_gA G))[t]? = some (am_gA G t, am_ty t) := by
    match t, ht with
    | 0, _ => rfl
    | 1, _ => rfl
    | 2, _ => rfl
    | 3, _ => rfl
    | 4, _ => rfl
    | 5, _ => rfl
    | 6, _ => rfl
    | 7, _ => rfl
  refine va_alen hc.1 hc.2.1 hc.2.2.2.2.2.1.1 dy.2.1 a t (am_ws_at hk) ht1 (v := Int32.ofNat x.1) ?_ hd (hP.2 H locs ls dy lr)
  obtain ⟨n, f | f | f | f | f⟩ := x <;> rfl
theorem am_s_new (hc : am_X G d k h0 h' p R s m args meth c) : am_r_new  k (am_P p l e R s m args below meth c Q G h0 h' k.2.2.1) := by
  intro pc L S h idx ci fs hd hok hP
  obtain ⟨C, T, N, ty, ⟨k1, k2, k3, k4⟩, w1, w2, w3, hN, hfs⟩ := hok
  obtain ⟨⟨m1, m2⟩, hP⟩ := hP
  rw [List.length_append] at m1
  rw [am_sz_app] at m2
  have e9 : am_sz [(.inr (ci, fs) : am_C)] = N := by simp [am_sz, am_sc, hN]
  rw [e9] at m2
  have e8 : [(.inr (ci, fs) : am_C)].length = 1 := rfl
  rw [e8] at m1
  refine ⟨⟨by omega, by omega⟩, fun H locs ls dy lr => ?_⟩
  have hts := hc.2.2.2.2.1
  have hKn := hc.2.2.2.2.2.1.1.1 ci _ k1
  have r1 := hc.2.2.2.2.2.2.2.2.2.1
  have r2 := hc.2.2.2.2.2.2.2.2.2.2
  have d4 := dy.2.2.2.1
  have d5 := dy.2.2.2.2
  refine W.newcK hc.1 hc.2.1 hc.2.2.2.1 (hts _ w1) (hts _ w2) (hts _ w3) rfl hd (by omega) (by omega) hKn.2.1 rfl fun H1 kC hkC e1 z1 o1 => ?_
  have := hP H1 locs ls (dy.push (x := .inr (ci, fs)) ⟨_, k1, by
    have hb := (u_born ty hts k2 hKn hkC e1 k3)
    rw [dy.1] at hb
    refine hb.to (fun j hj => ?_)
    have := hfs j hj
    simp only [vp_V, List.getD_eq_getElem?_getD, List.getElem?_map, this, Option.map_some, Option.getD_some]
    cases ty j <;> rfl⟩ z1 o1) lr
  rw [List.length_append, am_sz_app, e9, e8] at this
  rw [show h.length + 1 - h0.length = h.length - h0.length + 1 by omega, show am_sz h + N - am_sz h0 = am_sz h - am_sz h0 + N by omega] at this
  rw [dy.1]
  exact this
theorem am_s_newa (hc : am_X G d k h0 h' p R s m args meth c) : am_r_newa  k (am_P p l e R s m args below meth c Q G h0 h' k.2.2.1) := by
  intro pc L S h at_ t N x0 n hd hat ht hw hn hN hb hx hP
  obtain ⟨⟨m1, m2⟩, hP⟩ := hP
  rw [List.length_append] at m1
  rw [am_sz_app] at m2
  have e9 : am_sz [(.inl (t, x0) : am_C)] = N := by subst hx; simp only [am_sz, am_sc]; split <;> rfl
  rw [e9] at m2
  have e8 : [(.inl (t, x0) : am_C)].length = 1 := rfl
  rw [e8] at m1
  refine ⟨⟨by omega, by omega⟩, fun H locs ls dy lr => ?_⟩
  have hts := hc.2.2.2.2.1
  have r1 := hc.2.2.2.2.2.2.2.2.2.1
  have r2 := hc.2.2.2.2.2.2.2.2.2.2
  have d4 := dy.2.2.2.1
  have d5 := dy.2.2.2.2
  refine va_newaK hc.1 hc.2.1 (by rw [hat]; exact hts _ hw) rfl hd rfl hn hN (by rw [hat]; match t, ht with
    | 0, _ => simp [am_ty, componentBytes]; omega
    | 1, _ => simp [am_ty, componentBytes]; omega
    | 2, _ => simp [am_ty, componentBytes]; omega) (by omega) (by omega) rfl fun H1 cA e1 z1 o1 hAr hNm => ?_
  rw [hat] at e1 hNm
  have hA : cA = am_gA G t := by
    match t, ht with
    | 0, _ => exact Option.some.inj (hNm.symm.trans (hc.2.2.2.2.2.1.1.2 0 _ rfl).2)
    | 1, _ => exact Option.some.inj (hNm.symm.trans (hc.2.2.2.2.2.1.1.2 1 _ rfl).2)
    | 2, _ => exact Option.some.inj (hNm.symm.trans (hc.2.2.2.2.2.1.1.2 2 _ rfl).2)
  subst hA
  have := hP H1 locs ls (dy.push (x := .inl (t, x0)) (by
    show H1[am_gB G + h.length]? = some (vp_cell _ _)
    rw [← dy.1, e1, hx]
    match t, ht with
    | 0, _ => rfl
    | 1, _ => rfl
    | 2, _ => rfl) z1 o1) lr
  rw [List.length_append, am_sz_app, e9, e8] at this
  rw [show h.length + 1 - h0.length = h.length - h0.length + 1 by omega, show am_sz h + N - am_sz h0 = am_sz h - am_sz h0 + N by omega] at this
  rw [dy.1]
  exact this
theorem am_s_anew (hc : am_X G d k h0 h' p R s m args meth c) : am_r_anew  k (am_P p l e R s m args below meth c Q G h0 h' k.2.2.1) := by
  intro pc L S h idx t N C n hd hty ht hw hn hN hb hP
  obtain ⟨⟨m1, m2⟩, hP⟩ := hP
  rw [List.length_append] at m1
  rw [am_sz_app] at m2
  have e9 : am_sz [(.inl (t, (N, .inr (.inr (.inr (.inr (fun _ => none)))))) : am_C)] = N := by simp [am_sz, am_sc]
  rw [e9] at m2
  have e8 : [(.inl (t, (N, .inr (.inr (.inr (.inr (fun _ => none)))))) : am_C)].length = 1 := rfl
  rw [e8] at m1
  refine ⟨⟨by omega, by omega⟩, fun H locs ls dy lr => ?_⟩
  have hts := hc.2.2.2.2.1
  have r1 := hc.2.2.2.2.2.2.2.2.2.1
  have r2 := hc.2.2.2.2.2.2.2.2.2.2
  have d4 := dy.2.2.2.1
  have d5 := dy.2.2.2.2
  have hao : va_AO C s := by
    obtain ⟨C2, f1, f2⟩ := hc.2.2.2.2.2.1.2.2.2.2.2.2.2.1 (t - 3) (by omega)
    rw [show t - 3 + 3 = t by omega, hty] at f1
    cases f1
    exact f2
  have ht1 : (am_tys (am_gA G))[t]? = some (am_gA G t, .object C) := by
    rw [← hty]
    obtain ⟨ha, hb⟩ := ht
    match t, ha, hb with
    | 3, _, _ => rfl
    | 4, _, _ => rfl
    | 5, _, _ => rfl
    | 6, _, _ => rfl
  subst hN
  refine W.anew hc.1 hc.2.1 hc.2.2.2.1 (hts _ hw) (va_AO.use hao) rfl hd rfl hn (by omega) (by omega) (by omega) fun cA kA comp f1 f2 f3 f4 => ?_
  have hA : cA = am_gA G t := by
    obtain ⟨kA2, comp2, z1, z2, z3, z4⟩ := (hc.2.2.2.2.2.1.1.2 t _ ht1).2
    exact Option.some.inj (f1.symm.trans z4)
  subst hA
  generalize hH1 : H.push ({ cls := am_gA G t, slots := Array.replicate n.toNatClampNeg .null, vm := .none } : Cell) = H1
  have z1 : H1.size = H.size + 1 := by rw [← hH1, Array.size_push]
  have e1 : H1[H.size]? = some (arrV (am_gA G t) n.toNatClampNeg (fun _ => .null)) := by rw [← hH1, Array.getElem?_push_size, ← arrV_new]
  have o1 : ∀ q : Nat, q < H.size → H1[q]? = H[q]? := fun q hq => by rw [← hH1, Array.getElem?_push, if_neg (Nat.ne_of_lt hq)]
  have := hP H1 locs ls (dy.push (x := .inl (t, (n.toNatClampNeg, .inr (.inr (.inr (.inr (fun _ => none))))))) (by
    show H1[am_gB G + h.length]? = some (vp_cell _ _)
    rw [← dy.1, e1]
    rfl) z1 o1) lr
  rw [List.length_append, am_sz_app, e9, e8] at this
  rw [show h.length + 1 - h0.length = h.length - h0.length + 1 by omega, show am_sz h + n.toNatClampNeg - am_sz h0 = am_sz h - am_sz h0 + n.toNatClampNeg by omega] at this
  rw [dy.1]
  exact this
theorem am_s_objI (hc : am_X G d k h0 h' p R s m args meth c) : am_r_objI  k (am_P p l e R s m args below meth c Q G h0 h' k.2.2.1) := by
  intro pc L S h idx a hd hok hcat hP
  refine ⟨hP.1, fun H locs ls dy lr => ?_⟩
  have hts := hc.2.2.2.2.1
  have hfr := hc.2.2.2.2.2.2.2.1
  have hlo := hc.2.2.2.2.2.2.2.2.1
  have hrm := lv_room (m := m) (pc := pc) (ls := ls) (rest := (Value.ref a :: S).map (am_cv (am_gf G))) (st := S.map (am_cv (am_gf G))) (by rw [am_cat_map]; exact hcat)
  refine W.objInit hc.1 hc.2.1 hc.2.2.2.1 (hts _ hok.1) (hts _ hok.2.1) (hts _ hok.2.2) rfl (lr.1.trans hc.2.2.1.symm) rfl hd (by omega) (by omega) (hP.2 H locs ls dy lr)
theorem am_s_callV (hc : am_X G d k h0 h' p R s m args meth c) (hC : am_CS l G d Cr) : am_r_callV Cr k (am_P p l e R s m args below meth c Q G h0 h' k.2.2.1) := by
  intro pc L S h idx y n ci a As fs r1 h1 S0 hd hok hn hS0 hk hcat hcr hP
  subst hS0
  obtain ⟨⟨m1, m2⟩, hM⟩ := hC y _ h r1 h1 hcr
  obtain ⟨⟨p1, p2⟩, hP⟩ := hP
  refine ⟨⟨Nat.le_trans m1 p1, Nat.le_trans m2 p2⟩, fun H locs ls dy lr => ?_⟩
  have hts := hc.2.2.2.2.1
  have hfr := hc.2.2.2.2.2.2.2.1
  have hlo := hc.2.2.2.2.2.2.2.2.1
  have hce := hc.2.2.2.2.2.2.2.2.2.1
  have hsl := hc.2.2.2.2.2.2.2.2.2.2
  have d4 := dy.2.2.2.1
  have d5 := dy.2.2.2.2
  obtain ⟨ok, w1, w2, w3, w4, T, N, ty, kk⟩ := hok
  obtain ⟨o1, o2, o3, o4, o5, o6⟩ := ok
  try dsimp only at o4
  have hgood : ∀ w ∈ am_ws0 y, w ∈ am_tb := fun w hw => (List.mem_cons.mp hw).elim (fun q => by rw [q]; exact o2) (fun q => q)
  rw [List.map_append, List.map_reverse]
  refine am_go (r1 := r1) (h := h) (h1 := h1) (va_runV (As := As.map (am_cv (am_gf G))) (rest := S.map (am_cv (am_gf G))) (Ts := am_tb) ⟨hc.1, hc.2.1, hc.2.2.1, hc.2.2.2.1, hts⟩ hM (cwV n hts (am_good (ws := wsV k.1.cls idx y.1.cls y.1 (am_ws0 y)) (fun w hw => by
    simp only [wsV, List.mem_append, List.mem_cons, List.not_mem_nil, or_false] at hw
    rcases hw with (rfl | rfl | rfl | rfl) | hw
    · exact w1
    · exact w2
    · exact w3
    · exact o3
    · exact hgood w hw)) rfl rfl rfl ⟨rfl, o5, o6, w4⟩ ⟨by show d + 1 + 1 ≤ R.frames; omega, by show 8 + (y.2.2.1 + 11) + 64 * (d + 1) ≤ R.locals; omega⟩) ⟨am_W.blind G h _, va_recv hc.2.2.2.2.2.1.1 dy.2.1 (ci := ci) (q0 := a) kk.1 (am_ws_at hk), fun U hU hW => ⟨rfl, am_pre hc dy hU hW⟩⟩ rfl (by rw [List.length_map]; exact hn) lr.1 rfl (lv_room (by rw [am_cat_map]; exact hcat)) hd ⟨by omega, by omega⟩) dy m1 m2 (fun H1 locs1 dy1 => ?_)
  have := hP H1 locs1 ls dy1 lr
  rw [List.map_append] at this
  cases r1 <;> exact this
theorem am_s_callS (hc : am_X G d k h0 h' p R s m args meth c) (hC : am_CS l G d Cr) : am_r_callS Cr k (am_P p l e R s m args below meth c Q G h0 h' k.2.2.1) := by
  intro pc L S h idx y n As r1 h1 S0 hd hok hn hS0 hcat hcr hP
  subst hS0
  obtain ⟨⟨m1, m2⟩, hM⟩ := hC y _ h r1 h1 hcr
  obtain ⟨⟨p1, p2⟩, hP⟩ := hP
  refine ⟨⟨Nat.le_trans m1 p1, Nat.le_trans m2 p2⟩, fun H locs ls dy lr => ?_⟩
  have hts := hc.2.2.2.2.1
  have hfr := hc.2.2.2.2.2.2.2.1
  have hlo := hc.2.2.2.2.2.2.2.2.1
  have hce := hc.2.2.2.2.2.2.2.2.2.1
  have hsl := hc.2.2.2.2.2.2.2.2.2.2
  have d4 := dy.2.2.2.1
  have d5 := dy.2.2.2.2
  obtain ⟨ok, w1, w2, w4⟩ := hok
  obtain ⟨o1, o2, o3, o4, o5, o6⟩ := ok
  try dsimp only at o4
  have hgood : ∀ w ∈ am_ws0 y, w ∈ am_tb := fun w hw => (List.mem_cons.mp hw).elim (fun q => by rw [q]; exact o2) (fun q => q)
  rw [List.map_append, List.map_reverse]
  refine am_go (r1 := r1) (h := h) (h1 := h1) (va_runS (As := As.map (am_cv (am_gf G))) (rest := S.map (am_cv (am_gf G))) (Ts := am_tb) ⟨hc.1, hc.2.1, hc.2.2.1, hc.2.2.2.1, hts⟩ hM (va_cwS n hts (am_good (ws := va_wsS k.1.cls idx y.1 (am_ws0 y)) (fun w hw => by
    simp only [va_wsS, List.mem_append, List.mem_cons, List.not_mem_nil, or_false] at hw
    rcases hw with (rfl | rfl | rfl) | hw
    · exact w1
    · exact w2
    · exact o3
    · exact hgood w hw)) rfl rfl rfl ⟨o5, o6, w4⟩ ⟨by show d + 1 + 1 ≤ R.frames; omega, by show 8 + (y.2.2.1 + 11) + 64 * (d + 1) ≤ R.locals; omega⟩) ⟨am_W.blind G h _, fun U hU hW => ⟨rfl, am_pre hc dy hU hW⟩⟩ rfl (by rw [List.length_map]; exact hn) lr.1 rfl (lv_room (by rw [am_cat_map]; exact hcat)) hd ⟨by omega, by omega⟩) dy m1 m2 (fun H1 locs1 dy1 => ?_)
  have := hP H1 locs1 ls dy1 lr
  rw [List.map_append] at this
  cases r1 <;> exact this
theorem am_s_callSN (hc : am_X G d k h0 h' p R s m args meth c) (hC : am_CS l G d Cr) : am_r_callSN Cr k (am_P p l e R s m args below meth c Q G h0 h' k.2.2.1) := by
  intro pc L S h idx y n As r1 h1 S0 hd hok hn hS0 hcat hcr hP
  subst hS0
  obtain ⟨⟨m1, m2⟩, hM⟩ := hC y _ h r1 h1 hcr
  obtain ⟨⟨p1, p2⟩, hP⟩ := hP
  refine ⟨⟨Nat.le_trans m1 p1, Nat.le_trans m2 p2⟩, fun H locs ls dy lr => ?_⟩
  have hts := hc.2.2.2.2.1
  have hfr := hc.2.2.2.2.2.2.2.1
  have hlo := hc.2.2.2.2.2.2.2.2.1
  have hce := hc.2.2.2.2.2.2.2.2.2.1
  have hsl := hc.2.2.2.2.2.2.2.2.2.2
  have d4 := dy.2.2.2.1
  have d5 := dy.2.2.2.2
  obtain ⟨ok, ⟨host, w1⟩, w2, w4⟩ := hok
  obtain ⟨o1, o2, o3, o4, o5, o6⟩ := ok
  try dsimp only at o4
  have hgood : ∀ w ∈ am_ws0 y, w ∈ am_tb := fun w hw => (List.mem_cons.mp hw).elim (fun q => by rw [q]; exact o2) (fun q => q)
  rw [List.map_append, List.map_reverse]
  refine am_go (r1 := r1) (h := h) (h1 := h1) (va_runSN (As := As.map (am_cv (am_gf G))) (rest := S.map (am_cv (am_gf G))) (Ts := am_tb) ⟨hc.1, hc.2.1, hc.2.2.1, hc.2.2.2.1, hts⟩ hM ⟨va_cnB n hts (am_good hgood) rfl rfl rfl (hc.2.2.2.2.2.1.2.2.2.2.2.2.1 _ w1) (hts _ o3) ⟨o5, o6, w4⟩ ⟨by show d + 1 + 1 ≤ R.frames; omega, by show 8 + (y.2.2.1 + 11) + 64 * (d + 1) ≤ R.locals; omega⟩, hts _ w2, trivial⟩ ⟨am_W.blind G h _, fun U hU hW => ⟨rfl, am_pre hc dy hU hW⟩⟩ rfl (by rw [List.length_map]; exact hn) lr.1 rfl (lv_room (by rw [am_cat_map]; exact hcat)) hd ⟨by omega, by omega⟩) dy m1 m2 (fun H1 locs1 dy1 => ?_)
  have := hP H1 locs1 ls dy1 lr
  rw [List.map_append] at this
  cases r1 <;> exact this
theorem am_s_callI (hc : am_X G d k h0 h' p R s m args meth c) (hC : am_CS l G d Cr) : am_r_callI Cr k (am_P p l e R s m args below meth c Q G h0 h' k.2.2.1) := by
  intro pc L S h idx y n a As r1 h1 S0 hd hok hn hS0 hcat hcr hP
  subst hS0
  obtain ⟨⟨m1, m2⟩, hM⟩ := hC y _ h r1 h1 hcr
  obtain ⟨⟨p1, p2⟩, hP⟩ := hP
  refine ⟨⟨Nat.le_trans m1 p1, Nat.le_trans m2 p2⟩, fun H locs ls dy lr => ?_⟩
  have hts := hc.2.2.2.2.1
  have hfr := hc.2.2.2.2.2.2.2.1
  have hlo := hc.2.2.2.2.2.2.2.2.1
  have hce := hc.2.2.2.2.2.2.2.2.2.1
  have hsl := hc.2.2.2.2.2.2.2.2.2.2
  have d4 := dy.2.2.2.1
  have d5 := dy.2.2.2.2
  obtain ⟨ok, w1, w2, w3, w5, w4⟩ := hok
  obtain ⟨y1, y2, y3, y4⟩ := y
  have w5 : y4 = none := w5
  subst w5
  obtain ⟨o1, o2, o3, o4, o5, o6⟩ := ok
  try dsimp only at o4
  have hgood : ∀ w ∈ am_ws0 (y1, y2, y3, none), w ∈ am_tb := fun w hw => (List.mem_cons.mp hw).elim (fun q => by rw [q]; exact o2) (fun q => q)
  rw [List.map_append, List.map_reverse]
  refine am_go (r1 := r1) (h := h) (h1 := h1) (va_runI (As := As.map (am_cv (am_gf G))) (rest := S.map (am_cv (am_gf G))) (Ts := am_tb) ⟨hc.1, hc.2.1, hc.2.2.1, hc.2.2.2.1, hts⟩ hM (cwI n hts (am_good hgood) rfl rfl rfl (hts _ o3) (hts _ w1) (hts _ w2) w3 ⟨o5, o6, w4⟩ ⟨by show d + 1 + 1 ≤ R.frames; omega, by show 8 + (y3 + 11) + 64 * (d + 1) ≤ R.locals; omega⟩) ⟨am_W.blind G h _, fun U hU hW => ⟨rfl, am_pre hc dy hU hW⟩⟩ rfl (by rw [List.length_map]; exact hn) lr.1 rfl (lv_room (by rw [am_cat_map]; exact hcat)) hd ⟨by omega, by omega⟩) dy m1 m2 (fun H1 locs1 dy1 => ?_)
  have := hP H1 locs1 ls dy1 lr
  rw [List.map_append] at this
  cases r1 <;> exact this
theorem am_s_callIN (hc : am_X G d k h0 h' p R s m args meth c) (hC : am_CS l G d Cr) : am_r_callIN Cr k (am_P p l e R s m args below meth c Q G h0 h' k.2.2.1) := by
  intro pc L S h idx y n a As r1 h1 S0 hd hok hn hS0 hcat hcr hP
  subst hS0
  obtain ⟨⟨m1, m2⟩, hM⟩ := hC y _ h r1 h1 hcr
  obtain ⟨⟨p1, p2⟩, hP⟩ := hP
  refine ⟨⟨Nat.le_trans m1 p1, Nat.le_trans m2 p2⟩, fun H locs ls dy lr => ?_⟩
  have hts := hc.2.2.2.2.1
  have hfr := hc.2.2.2.2.2.2.2.1
  have hlo := hc.2.2.2.2.2.2.2.2.1
  have hce := hc.2.2.2.2.2.2.2.2.2.1
  have hsl := hc.2.2.2.2.2.2.2.2.2.2
  have d4 := dy.2.2.2.1
  have d5 := dy.2.2.2.2
  obtain ⟨ok, ⟨host, w1⟩, w2, w3, w5, w4⟩ := hok
  obtain ⟨y1, y2, y3, y4⟩ := y
  have w5 : y4 = none := w5
  subst w5
  obtain ⟨o1, o2, o3, o4, o5, o6⟩ := ok
  try dsimp only at o4
  have hgood : ∀ w ∈ am_ws0 (y1, y2, y3, none), w ∈ am_tb := fun w hw => (List.mem_cons.mp hw).elim (fun q => by rw [q]; exact o2) (fun q => q)
  rw [List.map_append, List.map_reverse]
  refine am_go (r1 := r1) (h := h) (h1 := h1) (va_runIN (As := As.map (am_cv (am_gf G))) (rest := S.map (am_cv (am_gf G))) (Ts := am_tb) ⟨hc.1, hc.2.1, hc.2.2.1, hc.2.2.2.1, hts⟩ hM ⟨va_cnB n hts (am_good hgood) rfl rfl rfl (hc.2.2.2.2.2.1.2.2.2.2.2.2.1 _ w1) (hts _ o3) ⟨o5, o6, w4⟩ ⟨by show d + 1 + 1 ≤ R.frames; omega, by show 8 + (y3 + 11) + 64 * (d + 1) ≤ R.locals; omega⟩, w3, hts _ w2⟩ ⟨am_W.blind G h _, fun U hU hW => ⟨rfl, am_pre hc dy hU hW⟩⟩ rfl (by rw [List.length_map]; exact hn) lr.1 rfl (lv_room (by rw [am_cat_map]; exact hcat)) hd ⟨by omega, by omega⟩) dy m1 m2 (fun H1 locs1 dy1 => ?_)
  have := hP H1 locs1 ls dy1 lr
  rw [List.map_append] at this
  cases r1 <;> exact this
theorem am_s_acopy (hc : am_X G d k h0 h' p R s m args meth c) : am_r_acopy  k (am_P p l e R s m args below meth c Q G h0 h' k.2.2.1) := by
  intro pc L S h idx a0 a1 n0 n1 f g sp dp n hd hok hk0 hk1 h1 h2 h3 h4 h5 hcat hP
  refine am_sets hk1 (by rfl) hP fun H locs ls dy lr kk => ?_
  have hts := hc.2.2.2.2.1
  have hfr := hc.2.2.2.2.2.2.2.1
  have hlo := hc.2.2.2.2.2.2.2.2.1
  have hK := hc.2.2.2.2.2.1.1
  have nn : ∀ z : Int32, ¬ z < 0 → z.toInt = (z.toNatClampNeg : Int) := by
    intro z hz
    have hz0 : (0 : Int) ≤ z.toInt := by
      have := Int32.not_lt.mp hz
      simpa using Int32.le_iff_toInt_le.mp this
    show z.toInt = ((z.toInt.toNat : Nat) : Int)
    omega
  have hrm := am_cat_map (am_gf G) S
  intro T hT X
  have hc0 : H[am_gB G + a0]? = some (vp_cell (am_gA G 0) (n0, .inl f)) := dy.2.1 a0 _ (am_ws_at hk0)
  have hc1 : H[am_gB G + a1]? = some (vp_cell (am_gA G 0) (n1, .inl g)) := dy.2.1 a1 _ (am_ws_at hk1)
  obtain ⟨-, k0, hkk0, cm0, hkkk0⟩ := (hK.2 0 _ rfl).1 n0 (fun j => .int (f j))
  obtain ⟨-, k1, hkk1, cm1, hkkk1⟩ := (hK.2 0 _ rfl).1 n1 (fun j => .int (g j))
  obtain ⟨vm', X', step⟩ := X.arraycopy hc.1 hc.2.2.2.1 (hts _ hok.1) (hts _ hok.2.1) (hts _ hok.2.2.1) (hts _ hok.2.2.2) (src := am_gB G + a0) (dst := am_gB G + a1) (cs := vp_cell (am_gA G 0) (n0, .inl f)) (cd := vp_cell (am_gA G 0) (n1, .inl g)) (srcPos := sp) (destPos := dp) (n := n) (by rw [hT]; exact hc0) (by rw [hT]; exact hc1)
    (fun _ h => by cases h) (fun _ h => by cases h) (fun h => by cases h) (fun h => by cases h) hkk0 hkk1 hkkk0 hkkk1 (by rfl) h1 h2 h3
    (by rw [nn sp h1, nn n h3]; show ¬ _ > ((arrV (am_gA G 0) n0 (fun j => .int (f j))).slots.size : Int); rw [arrV_size]; omega)
    (by rw [nn dp h2, nn n h3]; show ¬ _ > ((arrV (am_gA G 0) n1 (fun j => .int (g j))).slots.size : Int); rw [arrV_size]; omega)
    (fun vm₁ _ i hi => by
      have e : (vp_cell (am_gA G 0) (n0, .inl f)).slots.getD (sp.toNatClampNeg + i) .null = .int (f (sp.toNatClampNeg + i)) := by
        show (arrV (am_gA G 0) n0 (fun j => .int (f j))).slots.getD _ _ = _
        rw [Array.getD_eq_getD_getElem?, arrV_read _ _ (by omega)]
        rfl
      refine ⟨?_, ?_⟩
      · rw [e]
        rfl
      · rw [e]
        exact trivial)
    (g := F0 m pc ls (.int n :: .int dp :: .ref (am_gB G + a1) :: .int sp :: .ref (am_gB G + a0) :: S.map (am_cv (am_gf G)))) rfl (lr.1.trans hc.2.2.1.symm) (rest := S.map (am_cv (am_gf G))) rfl (by rw [hc.2.1]; exact hd) (by omega) (am_nat hrm hcat hlo)
  have e1 : copied (vp_cell (am_gA G 0) (n0, .inl f)) (vp_cell (am_gA G 0) (n1, .inl g)) sp dp n = vp_cell (am_gA G 0) (n1, .inl (va_cpy f g sp.toNatClampNeg dp.toNatClampNeg n.toNatClampNeg)) := va_copied (fun z => .int z) (am_gA G 0) (am_gA G 0) f g h4
  rw [e1] at X' step
  have hl : am_gB G + a1 < H.size := (Array.getElem?_eq_some_iff.mp hc1).1
  have hheap : ((T.setVm vm').setCell (am_gB G + a1) (vp_cell (am_gA G 0) (n1, .inl (va_cpy f g sp.toNatClampNeg dp.toNatClampNeg n.toNatClampNeg)))).heap = H.setIfInBounds (am_gB G + a1) (vp_cell (am_gA G 0) (n1, .inl (va_cpy f g sp.toNatClampNeg dp.toNatClampNeg n.toNatClampNeg))) := by rw [← hT]; rfl
  obtain ⟨t, a2, b2⟩ := kk _ _ (show (H.setIfInBounds (am_gB G + a1) _)[am_gB G + a1]? = some (vp_cell (am_gA G 0) (n1, .inl (va_cpy f g sp.toNatClampNeg dp.toNatClampNeg n.toNatClampNeg))) by simp [Array.getElem?_setIfInBounds, hl]) (by simp) (fun q hq => by simp [Array.getElem?_setIfInBounds, Ne.symm hq]) (fun q hq => by
      obtain ⟨z, -, hz⟩ := List.mem_map.mp hq
      rw [← hz]) _ hheap X'
  exact ⟨t, step t a2, b2⟩
theorem am_s_ret (hc : am_X G d k h0 h' p R s m args meth c) (hF : am_end p l e R s m args below meth c Q G h0 h' k r) : am_r_ret r h' k (am_P p l e R s m args below meth c Q G h0 h' k.2.2.1) := by
  intro pc L hf ho
  exact ⟨⟨Nat.le_refl _, Nat.le_refl _⟩, fun H locs ls dy lr => hF pc H locs ls hf ho dy⟩
theorem am_s_mna (hc : am_X G d k h0 h' p R s m args meth c) : am_r_mna  k (am_P p l e R s m args below meth c Q G h0 h' k.2.2.1) := by
  intro pc L S h idx N M n q hd hw hw2 hn hq hN hM hb1 hb2 hP
  obtain ⟨⟨m1, m2⟩, hP⟩ := hP
  rw [List.length_append] at m1
  rw [am_sz_app] at m2
  have e7 : ∀ K : Nat, am_sz (List.replicate K (.inl (0, (M, .inl (fun _ => 0))) : am_C)) = K * M := by
    intro K
    induction K with
    | zero => simp [am_sz]
    | succ K ih => rw [List.replicate_succ]; show M + am_sz _ = _; rw [ih, Nat.succ_mul, Nat.add_comm]
  have e9 : am_sz (.inl (7, (N, .inr (.inr (.inr (.inr (fun i => if i < N then some (h.length + 3 + i) else none)))))) :: List.replicate N (.inl (0, (M, .inl (fun _ => 0))) : am_C)) = N + N * M := by show N + am_sz _ = _; rw [e7]
  have e8 : (.inl (7, (N, .inr (.inr (.inr (.inr (fun i => if i < N then some (h.length + 3 + i) else none)))))) :: List.replicate N (.inl (0, (M, .inl (fun _ => 0))) : am_C)).length = 1 + N := by simp [Nat.add_comm]
  rw [e9] at m2
  rw [e8] at m1
  refine ⟨⟨by omega, by omega⟩, fun H locs ls dy lr => ?_⟩
  have hts := hc.2.2.2.2.1
  have hK := hc.2.2.2.2.2.1.1
  have r1 := hc.2.2.2.2.2.2.2.2.2.1
  have r2 := hc.2.2.2.2.2.2.2.2.2.2
  obtain ⟨d1, d2, d3, d4, d5⟩ := dy
  subst hN
  subst hM
  intro T hT X
  obtain ⟨vm₁, cA, comp, -, fA, fC, hO, -, X', step⟩ := Jvm.Stand.multianewarray2F X hc.1 (own := k.1.cls) (index := idx) (ty := .int) hc.2.2.2.1 (hts _ hw) (over_moved (Vm.Alike.refl s.vm) hc.2.2.2.2.2.1.2.2.2.2.2.2.2.2) (hts _ hw2) (g := F0 m pc ls (.int q :: .int n :: S.map (am_cv (am_gf G)))) rfl (by rw [hc.2.1]; exact hd) rfl hn hq (by omega) (by show _ * 4 ≤ _; omega) (by omega) rfl rfl (by omega) (by omega)
  have hA : cA = am_gA G 7 := Option.some.inj (fA.symm.trans (hK.2 7 _ rfl).2)
  have hB : comp = am_gA G 0 := Option.some.inj (fC.symm.trans (hK.2 0 _ rfl).2)
  subst hA
  subst hB
  generalize hF : Jvm.Free.Multi.fill (T.setVm vm₁) (am_gA G 7) (am_gA G 0) n.toNatClampNeg q.toNatClampNeg (defaultValue .int) n.toNatClampNeg = F at X' step
  have hTh : (T.setVm vm₁).heap = H := hT
  obtain ⟨f1, f2, -, -⟩ := Jvm.Free.Multi.fill_facts (T.setVm vm₁) (am_gA G 7) (am_gA G 0) n.toNatClampNeg q.toNatClampNeg (defaultValue .int) n.toNatClampNeg
  rw [hF, hTh] at f1 f2
  have hold : ∀ x : Nat, x < H.size → F.heap[x]? = H[x]? := fun x hx => by
    have := Jvm.Free.Multi.fill_old (T.setVm vm₁) (am_gA G 7) (am_gA G 0) n.toNatClampNeg q.toNatClampNeg (defaultValue .int) (a := x) (by rw [hTh]; exact hx) n.toNatClampNeg
    rw [hF, hTh] at this
    exact this
  have hrow : ∀ j : Nat, j < n.toNatClampNeg → F.heap[H.size + 1 + j]? = some (vp_cell (am_gA G 0) (q.toNatClampNeg, .inl (fun _ => 0))) := fun j hj => by
    have := Jvm.Free.Multi.fill_inner (T.setVm vm₁) (am_gA G 7) (am_gA G 0) n.toNatClampNeg q.toNatClampNeg (defaultValue .int) n.toNatClampNeg j hj
    rw [hF, hTh] at this
    rw [this, vp_cell_i, ← arrV_new]
    rfl
  have hout : Jvm.Free.Multi.outerC (am_gA G 7) n.toNatClampNeg H.size n.toNatClampNeg = vp_cell (am_gA G 7) (n.toNatClampNeg, .inr (.inr (.inr (.inr (fun i => if i < n.toNatClampNeg then some (H.size + 1 + i) else none))))) := by
    rw [vp_cell_q]
    exact am_outer (am_gA G 7) n.toNatClampNeg H.size n.toNatClampNeg
  rw [hout] at f2
  rw [show h.length - h0.length + 1 + n.toNatClampNeg = h.length + (1 + n.toNatClampNeg) - h0.length by omega, show am_sz h - am_sz h0 + n.toNatClampNeg + n.toNatClampNeg * q.toNatClampNeg = am_sz h + (n.toNatClampNeg + n.toNatClampNeg * q.toNatClampNeg) - am_sz h0 by omega] at X'
  have hP := hP F.heap locs ls ⟨by rw [f1, List.length_append, e8, d1]; omega, ?_, ⟨by rw [f1]; have := d3.1; omega, fun x g1 g2 => (hold x (Nat.lt_of_lt_of_le g1 d3.1)).trans (d3.2.1 x g1 g2), d3.2.2⟩, by rw [List.length_append]; omega, by rw [am_sz_app]; omega⟩ lr
  · rw [List.length_append, am_sz_app, e9, e8] at hP
    obtain ⟨t, a1, b1⟩ := hP F rfl X'
    refine ⟨t, step t ?_, b1⟩
    have e : T.heap.size = am_gB G + h.length := by rw [hT]; exact d1
    rw [e]
    exact a1
  · unfold am_gw
    rw [am_ws_app]
    refine va_P.app (d2.kept (fun k9 y hy => hold y.1 ((d2 k9 y hy).lt))) (fun k9 y hy => ?_)
    rw [am_ws_get] at hy
    obtain ⟨x, hx, rfl⟩ := Option.map_eq_some_iff.mp hy
    cases k9 with
    | zero =>
      simp at hx
      subst hx
      show F.heap[am_gB G + h.length + 0]? = some (vp_cell _ _)
      rw [Nat.add_zero, ← d1, f2]
      congr 2
      show _ = (n.toNatClampNeg, Sum.inr (Sum.inr (Sum.inr (Sum.inr (fun j => Option.map (am_gf G) (if j < n.toNatClampNeg then some (h.length + 3 + j) else none))))))
      congr 5
      funext j
      by_cases hj : j < n.toNatClampNeg
      · rw [if_pos hj, if_pos hj, d1]
        show some _ = some (am_pv _ _ _ (h.length + 3 + j))
        rw [show h.length + 3 + j = (h.length + 1 + j) + 2 by omega]
        show some _ = some (am_gB G + (h.length + 1 + j))
        congr 1
        omega
      · rw [if_neg hj, if_neg hj]
        rfl
    | succ j =>
      rw [List.getElem?_cons_succ] at hx
      have hj : j < n.toNatClampNeg := by
        have := (List.getElem?_eq_some_iff.mp hx).1
        simpa using this
      have hx2 := List.eq_of_mem_replicate (List.mem_of_getElem? hx)
      subst hx2
      show F.heap[am_gB G + h.length + (j + 1)]? = some (vp_cell _ _)
      have := hrow j hj
      rw [show am_gB G + h.length + (j + 1) = H.size + 1 + j by omega]
      exact this
end SOUND
