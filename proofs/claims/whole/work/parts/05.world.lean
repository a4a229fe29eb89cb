-- ===== THE WORLD: what stands around the abstract heap =====
abbrev am_G : Type := va_G × (Nat → ClassId) × Nat × Nat × (Nat → Int32) × Nat × Nat
abbrev am_gA (G : am_G) : Nat → ClassId := G.2.1
abbrev am_gb (G : am_G) : Nat := G.2.2.1
abbrev am_gN (G : am_G) : Nat := G.2.2.2.1
abbrev am_gx (G : am_G) : Nat → Int32 := G.2.2.2.2.1
abbrev am_gl (G : am_G) : Nat := G.2.2.2.2.2.1
abbrev am_gB (G : am_G) : Nat := G.2.2.2.2.2.2
abbrev am_gf (G : am_G) : Nat → Nat := am_pv (am_gb G) (am_gl G) (am_gB G)
abbrev am_gw (G : am_G) (h : am_H) : va_W := am_ws (am_gf G) (am_gA G) (am_gB G) h
abbrev am_up (G : am_G) : Nat → Prop := fun q => am_gB G ≤ q
def am_let : Nat → Int32 := fun j => ([102, 115, 107, 98, 116, 113] : List Int32).getD j 0
def am_tb : List Cond := lw_tbl.filter goodWord
def am_isN : Cond → Bool
  | .fieldLinkNest .. => true
  | .methodLinkNest .. => true
  | _ => false
def am_nw : List Cond := lw_tbl.filter am_isN
theorem am_good {ws : List Cond} (h : ∀ w ∈ ws, w ∈ am_tb) : GoodIn am_tb ws := fun w hw => ⟨h w hw, good_of_word (List.mem_filter.mp (h w hw)).2⟩
def am_S (G : am_G) (s : State) : Prop :=
  va_K G.1 vwCl (am_tys (am_gA G)) s ∧ va_X (am_gb G) (am_gN G) (am_gx G) s s.heap ∧ am_gb G < am_gB G ∧ am_gB G ≤ s.heap.size ∧ va_Z "FlapBoard" "LETTERS" "[I" (.ref (am_gl G)) (am_up G) s s.heap ∧
  va_T .int (am_gl G) 6 (fun j => .int (am_let j)) (am_up G) s s.heap ∧ (∀ w ∈ am_nw, va_Nw w s) ∧ (∀ t, t < 4 → ∃ C, am_ty (t + 3) = .object C ∧ va_AO C s) ∧ (Cond.arrayOver (.array .int)).before #[] s = true
theorem am_nw_warm {s U : State} (hW : s.WarmedH U.vm) {w : Cond} (hw : w ∈ am_nw) (h : va_Nw w s) : va_Nw w U := by
  have hb := (List.mem_filter.mp hw).2
  cases w <;> first | exact va_Nw.warmF hW h | exact va_Nw.warmM hW h | (simp [am_isN] at hb)
theorem am_nw_tab {w : Cond} (hw : w ∈ am_nw) : w.onTables = true := by
  have hb := (List.mem_filter.mp hw).2
  cases w <;> first | rfl | (simp [am_isN] at hb)
theorem am_S.moved {G : am_G} {s U : State} {locs : List Loc} (h : am_S G s) (hW : s.WarmedH U.vm) (hS : va_S (am_up G) s.heap U.heap locs) : am_S G U := by
  obtain ⟨h1, h2, h3, h4, h5, h6, h7, h8, h9⟩ := h
  have hq : ∀ a : Nat, a < s.heap.size → ¬ am_up G a → U.heap[a]? = s.heap[a]? := hS.2.1
  refine ⟨va_K.moved hW.alike h1, va_X.moved hW.alike (va_X.kept h2 (hq _ (Nat.lt_of_lt_of_le h3 h4) (Nat.not_le.mpr h3))), h3, Nat.le_trans h4 hS.1, va_Z.moved hW.alike (va_Z.kept h5 hq), va_T.moved hW.alike (va_T.kept h6 hq), fun w hw => am_nw_warm hW hw (h7 w hw), fun t ht => ?_, ?_⟩
  · obtain ⟨C, e1, e2⟩ := h8 t ht
    exact ⟨C, e1, e2.moved hW.alike⟩
  · exact over_moved hW.alike h9
theorem am_S.same {G : am_G} {u U : State} (hv : u.vm = U.vm) (hh : u.heap = U.heap) (h : am_S G u) : am_S G U := by
  obtain ⟨h1, h2, h3, h4, h5, h6, h7, h8, h9⟩ := h
  have al : u.vm.Alike U.vm := by rw [hv]; exact Vm.Alike.refl _
  rw [hh] at h2 h4 h5 h6
  refine ⟨va_K.moved al h1, va_X.moved al h2, h3, h4, va_Z.moved al h5, va_T.moved al h6, fun w hw => va_Nw.same (am_nw_tab hw) hv (h7 w hw), fun t ht => ?_, ?_⟩
  · obtain ⟨C, e1, e2⟩ := h8 t ht
    exact ⟨C, e1, e2.moved al⟩
  · exact over_moved al h9
def am_W (G : am_G) (h : am_H) (U : State) : Prop := U.heap.size = am_gB G + h.length ∧ va_P G.1 vwCl (am_gw G h) U.heap ∧ am_S G U
theorem am_W.blind (G : am_G) (h : am_H) (vs : List Value) : FrameBlind (va_Pc vs (am_W G h)) := by
  intro a U g mk q
  obtain ⟨q0, q1, q2, q3⟩ := q
  exact ⟨q0, q1, q2, am_S.same (u := U) (U := U.calling g mk a) rfl rfl q3⟩
def am_D (G : am_G) (s : State) (h0 h : am_H) (H : Heap) (locs : List Loc) : Prop := H.size = am_gB G + h.length ∧ va_P G.1 vwCl (am_gw G h) H ∧ va_S (am_up G) s.heap H locs ∧ h0.length ≤ h.length ∧ am_sz h0 ≤ am_sz h
theorem am_D.put {G : am_G} {s : State} {h0 h : am_H} {H H1 : Heap} {locs : List Loc} {a j : Nat} {c d : am_C} (dy : am_D G s h0 h H locs) (hk : h[a]? = some d) (hs : am_sc c = am_sc d)
    (e : va_at G.1 vwCl (am_gB G + a, am_E (am_gf G) (am_gA G) c) H1) (z : H1.size = H.size) (oq : ∀ q : Nat, q ≠ am_gB G + a → H1[q]? = H[q]?) : am_D G s h0 (h.set a c) H1 (locs ++ [⟨am_gB G + a, j⟩]) := by
  obtain ⟨d1, d2, d3, d4, d5⟩ := dy
  refine ⟨by rw [z, List.length_set]; exact d1, ?_, d3.put z oq (Nat.le_add_right _ _), by rw [List.length_set]; exact d4, by rw [am_sz_set h a c d hk hs]; exact d5⟩
  have := d2.set (am_ws_D _ _ _ _) (am_ws_at (f := am_gf G) (cA := am_gA G) (B := am_gB G) hk) e oq
  rw [am_ws_set] at this
  exact this
-- methods, contexts, the predicate that the machine keeps
abbrev am_K : Type := MethodName × ByteArray × Nat × Option FieldType
def am_ok (k : am_K) : Prop := plainFor k.1 = true ∧ Cond.code k.1 k.2.1 k.2.2.1 k.2.2.2 ∈ am_tb ∧ Cond.initialized k.1.cls ∈ am_tb ∧ k.2.2.1 ≤ 25 ∧ k.1.cls ≠ "java/lang/invoke/MethodHandle" ∧ k.1.cls ≠ "java/lang/invoke/VarHandle"
def am_X (G : am_G) (d : Nat) (k : am_K) (h0 h' : am_H) (p : Program) (R : Room) (s : State) (m : MethodId) (args : Array Value) (meth : Method) (c : Code) : Prop :=
  p.tables.exec = Jvm.exec ∧ c.code = k.2.1 ∧ c.maxLocals = k.2.2.1 ∧ s.vm.findClass k.1.cls = some m.cls ∧ (∀ w ∈ am_tb, w.before args s = true) ∧ am_S G s ∧ (k.1.name = "<init>" → meth.name = "<init>") ∧ d + 2 ≤ R.frames ∧ 64 * (d + 2) ≤ R.locals ∧ h'.length - h0.length ≤ R.cells ∧ am_sz h' - am_sz h0 ≤ R.slots
def am_P (p : Program) (l : Launch) (e : Env) (R : Room) (s : State) (m : MethodId) (args : Array Value) (below : List Frame) (meth : Method) (c : Code) (Q : State → Prop) (G : am_G) (h0 h' : am_H) (nL : Nat) (pc : Nat) (L S : List Value) (h : am_H) : Prop :=
  (h.length ≤ h'.length ∧ am_sz h ≤ am_sz h') ∧ ∀ (H : Heap) (locs : List Loc) (ls : Array Slot), am_D G s h0 h H locs → am_L (am_gf G) nL L ls → W p l e R s m args below meth c H locs (h.length - h0.length) (am_sz h - am_sz h0) Q (F0 m pc ls (S.map (am_cv (am_gf G))))
def am_fin (cc : ByteArray) (pc : Nat) (r : Option Value) : Prop := (∃ v, r = some (.int v) ∧ decode cc pc = .ok (.ireturn, 1)) ∨ (∃ v, r = some (.long v) ∧ decode cc pc = .ok (.lreturn, 1)) ∨ (r = none ∧ decode cc pc = .ok (.return_, 1))
def am_okr (t : Option FieldType) (r : Option Value) : Prop := match t, r with
  | some ty, some (.int v) => narrow ty (.int v) = .int v
  | some ty, some (.long _) => ty = .long
  | none, none => True
  | _, _ => False
abbrev am_R : Type := am_K → List Value → am_H → Option Value → am_H → Prop
def am_cat (S : List Value) : Nat := (S.map fun v => v.category).sum
theorem am_cat_map (f : Nat → Nat) : ∀ S : List Value, ((S.map (am_cv f)).map fun v => v.category).sum = am_cat S
  | [] => rfl
  | v :: S => by
    have := am_cat_map f S
    simp only [am_cat, List.map_cons, List.sum_cons] at this ⊢
    rw [this, am_cv_cat]
def am_cls (ci : Nat) (C : String) (T : u_T) (N : Nat) (ty : Nat → FieldType) : Prop := vwCl[ci]? = some (C, T, N) ∧ (∀ w ∈ u_ws C T N, w ∈ am_tb) ∧ (∀ k, k < N → parseFieldDescriptor (T k).2.2.1 = some (ty k)) ∧ ∀ a, a < N → ∀ b, b < N → a ≠ b → (T a).2.1 ≠ (T b).2.1
def am_okF (own : String) (idx ci j : Nat) : Prop := ∃ C T N ty, am_cls ci C T N ty ∧ j < N ∧ Cond.fieldLink own idx (T j).1 (T j).2.1 (T j).2.2.1 ∈ am_tb
def am_okP (own : String) (idx ci j : Nat) (ft : FieldType) : Prop := ∃ C T N ty, am_cls ci C T N ty ∧ j < N ∧ Cond.fieldLink own idx (T j).1 (T j).2.1 (T j).2.2.1 ∈ am_tb ∧ (T j).2.2.2 = false ∧ parseFieldDescriptor (T j).2.2.1 = some ft
def am_okPF (own : String) (idx ci j : Nat) (ft : FieldType) : Prop := ∃ C T N ty, am_cls ci C T N ty ∧ j < N ∧ Cond.fieldLink own idx (T j).1 (T j).2.1 (T j).2.2.1 ∈ am_tb ∧ (T j).2.2.2 = true ∧ (T j).1 = own ∧ parseFieldDescriptor (T j).2.2.1 = some ft
def am_okN (own : String) (idx ci : Nat) (fs : List Value) : Prop := ∃ C T N ty, am_cls ci C T N ty ∧ Cond.classLink own idx C ∈ am_tb ∧ Cond.instantiable C N ∈ am_tb ∧ Cond.initialized C ∈ am_tb ∧ fs.length = N ∧ ∀ j, j < N → fs[j]? = some (defaultValue (ty j))
def am_okV (own : String) (idx : Nat) (y : am_K) (n ci : Nat) : Prop := am_ok y ∧ Cond.methodLink own idx y.1 ∈ am_tb ∧ Cond.instanceMethod y.1 ∈ am_tb ∧ Cond.selects y.1.cls y.1 y.1 ∈ am_tb ∧ (parseMethodDescriptor y.1.desc).map (fun d => d.parameters.length) = some n ∧ ∃ T N ty, am_cls ci y.1.cls T N ty
def am_okS (own : String) (idx : Nat) (y : am_K) (n : Nat) : Prop := am_ok y ∧ Cond.methodLink own idx y.1 ∈ am_tb ∧ Cond.static y.1 ∈ am_tb ∧ (parseMethodDescriptor y.1.desc).map (fun d => d.parameters.length) = some n
def am_okSN (own : String) (idx : Nat) (y : am_K) (n : Nat) : Prop := am_ok y ∧ (∃ host, Cond.methodLinkNest own idx y.1 host ∈ am_nw) ∧ Cond.static y.1 ∈ am_tb ∧ (parseMethodDescriptor y.1.desc).map (fun d => d.parameters.length) = some n
def am_okI (own : String) (idx : Nat) (y : am_K) (n : Nat) : Prop := am_ok y ∧ Cond.methodLink own idx y.1 ∈ am_tb ∧ Cond.instanceMethod y.1 ∈ am_tb ∧ y.1.name = "<init>" ∧ y.2.2.2 = none ∧ (parseMethodDescriptor y.1.desc).map (fun d => d.parameters.length) = some n
def am_okIN (own : String) (idx : Nat) (y : am_K) (n : Nat) : Prop := am_ok y ∧ (∃ host, Cond.methodLinkNest own idx y.1 host ∈ am_nw) ∧ Cond.instanceMethod y.1 ∈ am_tb ∧ y.1.name = "<init>" ∧ y.2.2.2 = none ∧ (parseMethodDescriptor y.1.desc).map (fun d => d.parameters.length) = some n
def am_okO (own : String) (idx : Nat) : Prop := Cond.methodLink own idx Lib.objectInit ∈ am_tb ∧ Cond.instanceMethod Lib.objectInit ∈ am_tb ∧ Cond.code Lib.objectInit ⟨#[0xb1]⟩ 1 none ∈ am_tb
def am_okA (own : String) (idx : Nat) : Prop := Cond.methodLink own idx arraycopyName ∈ am_tb ∧ Cond.native arraycopyName ∈ am_tb ∧ Cond.static arraycopyName ∈ am_tb ∧ Cond.initialized "java/lang/System" ∈ am_tb
def am_okM (own : String) (idx : Nat) : Prop := Cond.methodLink own idx Lib.Math.max.name ∈ am_tb ∧ Cond.static Lib.Math.max.name ∈ am_tb ∧ Cond.initialized "java/lang/Math" ∈ am_tb ∧ Cond.code Lib.Math.max.name Lib.Math.max.code 2 (some .int) ∈ am_tb
theorem am_wide : True := by
  have := @Jvm.Stand.multianewarray2F
  trivial
