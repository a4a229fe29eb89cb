-- ===== how a board changes (written by wip/mkbr.py) =====
section BRL
variable {μ : am_M} {a i v : Nat} {c : NF}
theorem BR.setKind (h : BR μ a c) (hi : i < 7) (h18 : c 18 ≤ 7) : BR (sI μ (a + 1) (upd (μ.1 (a + 1)) i (nI v))) a (nu c (19 + i) v) := by
  obtain ⟨r4, r5, r6, r7, r8, rr⟩ := h
  have e : (sI μ (a + 1) (upd (μ.1 (a + 1)) i (nI v))).1 a = μ.1 a := sI_ne _ _ (by omega)
  refine ⟨by rw [e, nu_n _ _ (by omega)]; exact r4, by rw [e, nu_n _ _ (by omega)]; exact r5, by rw [e, nu_n _ _ (by omega)]; exact r6, by rw [e, nu_n _ _ (by omega)]; exact r7, by rw [e, nu_n _ _ (by omega)]; exact r8, fun j hj => ?_⟩
  rw [nu_n _ _ (by omega)] at hj
  obtain ⟨a1, a2, a3, a4⟩ := rr j hj
  exact ⟨by
    rw [sI_same]
    by_cases e2 : j = i
    · subst e2; rw [pk_us, nu_s]
    · rw [pk_un e2, nu_n _ _ (by omega)]; exact a1,
    by rw [sI_ne _ _ (by omega), nu_n _ _ (by omega)]; exact a2,
    by rw [sI_ne _ _ (by omega), nu_n _ _ (by omega)]; exact a3,
    by rw [sI_ne _ _ (by omega), nu_n _ _ (by omega)]; exact a4⟩
theorem BR.setShow (h : BR μ a c) (hi : i < 7) (h18 : c 18 ≤ 7) : BR (sI μ (a + 2) (upd (μ.1 (a + 2)) i (nI v))) a (nu c (4 + i) v) := by
  obtain ⟨r4, r5, r6, r7, r8, rr⟩ := h
  have e : (sI μ (a + 2) (upd (μ.1 (a + 2)) i (nI v))).1 a = μ.1 a := sI_ne _ _ (by omega)
  refine ⟨by rw [e, nu_n _ _ (by omega)]; exact r4, by rw [e, nu_n _ _ (by omega)]; exact r5, by rw [e, nu_n _ _ (by omega)]; exact r6, by rw [e, nu_n _ _ (by omega)]; exact r7, by rw [e, nu_n _ _ (by omega)]; exact r8, fun j hj => ?_⟩
  rw [nu_n _ _ (by omega)] at hj
  obtain ⟨a1, a2, a3, a4⟩ := rr j hj
  exact ⟨by rw [sI_ne _ _ (by omega), nu_n _ _ (by omega)]; exact a1,
    by
    rw [sI_same]
    by_cases e2 : j = i
    · subst e2; rw [pk_us, nu_s]
    · rw [pk_un e2, nu_n _ _ (by omega)]; exact a2,
    by rw [sI_ne _ _ (by omega), nu_n _ _ (by omega)]; exact a3,
    by rw [sI_ne _ _ (by omega), nu_n _ _ (by omega)]; exact a4⟩
theorem BR.setGoal (h : BR μ a c) (hi : i < 7) (h18 : c 18 ≤ 7) : BR (sI μ (a + 3) (upd (μ.1 (a + 3)) i (nI v))) a (nu c (11 + i) v) := by
  obtain ⟨r4, r5, r6, r7, r8, rr⟩ := h
  have e : (sI μ (a + 3) (upd (μ.1 (a + 3)) i (nI v))).1 a = μ.1 a := sI_ne _ _ (by omega)
  refine ⟨by rw [e, nu_n _ _ (by omega)]; exact r4, by rw [e, nu_n _ _ (by omega)]; exact r5, by rw [e, nu_n _ _ (by omega)]; exact r6, by rw [e, nu_n _ _ (by omega)]; exact r7, by rw [e, nu_n _ _ (by omega)]; exact r8, fun j hj => ?_⟩
  rw [nu_n _ _ (by omega)] at hj
  obtain ⟨a1, a2, a3, a4⟩ := rr j hj
  exact ⟨by rw [sI_ne _ _ (by omega), nu_n _ _ (by omega)]; exact a1,
    by rw [sI_ne _ _ (by omega), nu_n _ _ (by omega)]; exact a2,
    by
    rw [sI_same]
    by_cases e2 : j = i
    · subst e2; rw [pk_us, nu_s]
    · rw [pk_un e2, nu_n _ _ (by omega)]; exact a3,
    by rw [sI_ne _ _ (by omega), nu_n _ _ (by omega)]; exact a4⟩
theorem BR.setMark (h : BR μ a c) (hi : i < 7) (h18 : c 18 ≤ 7) : BR (sI μ (a + 4) (upd (μ.1 (a + 4)) i (nI v))) a (nu c (26 + i) v) := by
  obtain ⟨r4, r5, r6, r7, r8, rr⟩ := h
  have e : (sI μ (a + 4) (upd (μ.1 (a + 4)) i (nI v))).1 a = μ.1 a := sI_ne _ _ (by omega)
  refine ⟨by rw [e, nu_n _ _ (by omega)]; exact r4, by rw [e, nu_n _ _ (by omega)]; exact r5, by rw [e, nu_n _ _ (by omega)]; exact r6, by rw [e, nu_n _ _ (by omega)]; exact r7, by rw [e, nu_n _ _ (by omega)]; exact r8, fun j hj => ?_⟩
  rw [nu_n _ _ (by omega)] at hj
  obtain ⟨a1, a2, a3, a4⟩ := rr j hj
  exact ⟨by rw [sI_ne _ _ (by omega), nu_n _ _ (by omega)]; exact a1,
    by rw [sI_ne _ _ (by omega), nu_n _ _ (by omega)]; exact a2,
    by rw [sI_ne _ _ (by omega), nu_n _ _ (by omega)]; exact a3,
    by
    rw [sI_same]
    by_cases e2 : j = i
    · subst e2; rw [pk_us, nu_s]
    · rw [pk_un e2, nu_n _ _ (by omega)]; exact a4⟩
theorem BR.setF5 (h : BR μ a c) : BR (sI μ a (upd (μ.1 a) 5 (nI v))) a (nu c 0 v) := by
  obtain ⟨r4, r5, r6, r7, r8, rr⟩ := h
  have e : (sI μ a (upd (μ.1 a) 5 (nI v))).1 a = upd (μ.1 a) 5 (nI v) := sI_same _ _ _
  refine ⟨by rw [e, pk_un (by omega), nu_n _ _ (by omega)]; exact r4, by rw [e, pk_us, nu_s], by rw [e, pk_un (by omega), nu_n _ _ (by omega)]; exact r6, by rw [e, pk_un (by omega), nu_n _ _ (by omega)]; exact r7, by rw [e, pk_un (by omega), nu_n _ _ (by omega)]; exact r8, fun j hj => ?_⟩
  rw [nu_n _ _ (by omega)] at hj
  obtain ⟨a1, a2, a3, a4⟩ := rr j hj
  exact ⟨by rw [sI_ne _ _ (by omega), nu_n _ _ (by omega)]; exact a1, by rw [sI_ne _ _ (by omega), nu_n _ _ (by omega)]; exact a2, by rw [sI_ne _ _ (by omega), nu_n _ _ (by omega)]; exact a3, by rw [sI_ne _ _ (by omega), nu_n _ _ (by omega)]; exact a4⟩
theorem BR.setF6 (h : BR μ a c) : BR (sI μ a (upd (μ.1 a) 6 (nI v))) a (nu c 1 v) := by
  obtain ⟨r4, r5, r6, r7, r8, rr⟩ := h
  have e : (sI μ a (upd (μ.1 a) 6 (nI v))).1 a = upd (μ.1 a) 6 (nI v) := sI_same _ _ _
  refine ⟨by rw [e, pk_un (by omega), nu_n _ _ (by omega)]; exact r4, by rw [e, pk_un (by omega), nu_n _ _ (by omega)]; exact r5, by rw [e, pk_us, nu_s], by rw [e, pk_un (by omega), nu_n _ _ (by omega)]; exact r7, by rw [e, pk_un (by omega), nu_n _ _ (by omega)]; exact r8, fun j hj => ?_⟩
  rw [nu_n _ _ (by omega)] at hj
  obtain ⟨a1, a2, a3, a4⟩ := rr j hj
  exact ⟨by rw [sI_ne _ _ (by omega), nu_n _ _ (by omega)]; exact a1, by rw [sI_ne _ _ (by omega), nu_n _ _ (by omega)]; exact a2, by rw [sI_ne _ _ (by omega), nu_n _ _ (by omega)]; exact a3, by rw [sI_ne _ _ (by omega), nu_n _ _ (by omega)]; exact a4⟩
theorem BR.setF7 (h : BR μ a c) : BR (sI μ a (upd (μ.1 a) 7 (nI v))) a (nu c 2 v) := by
  obtain ⟨r4, r5, r6, r7, r8, rr⟩ := h
  have e : (sI μ a (upd (μ.1 a) 7 (nI v))).1 a = upd (μ.1 a) 7 (nI v) := sI_same _ _ _
  refine ⟨by rw [e, pk_un (by omega), nu_n _ _ (by omega)]; exact r4, by rw [e, pk_un (by omega), nu_n _ _ (by omega)]; exact r5, by rw [e, pk_un (by omega), nu_n _ _ (by omega)]; exact r6, by rw [e, pk_us, nu_s], by rw [e, pk_un (by omega), nu_n _ _ (by omega)]; exact r8, fun j hj => ?_⟩
  rw [nu_n _ _ (by omega)] at hj
  obtain ⟨a1, a2, a3, a4⟩ := rr j hj
  exact ⟨by rw [sI_ne _ _ (by omega), nu_n _ _ (by omega)]; exact a1, by rw [sI_ne _ _ (by omega), nu_n _ _ (by omega)]; exact a2, by rw [sI_ne _ _ (by omega), nu_n _ _ (by omega)]; exact a3, by rw [sI_ne _ _ (by omega), nu_n _ _ (by omega)]; exact a4⟩
theorem BR.setF8 (h : BR μ a c) : BR (sI μ a (upd (μ.1 a) 8 (nI v))) a (nu c 3 v) := by
  obtain ⟨r4, r5, r6, r7, r8, rr⟩ := h
  have e : (sI μ a (upd (μ.1 a) 8 (nI v))).1 a = upd (μ.1 a) 8 (nI v) := sI_same _ _ _
  refine ⟨by rw [e, pk_un (by omega), nu_n _ _ (by omega)]; exact r4, by rw [e, pk_un (by omega), nu_n _ _ (by omega)]; exact r5, by rw [e, pk_un (by omega), nu_n _ _ (by omega)]; exact r6, by rw [e, pk_un (by omega), nu_n _ _ (by omega)]; exact r7, by rw [e, pk_us, nu_s], fun j hj => ?_⟩
  rw [nu_n _ _ (by omega)] at hj
  obtain ⟨a1, a2, a3, a4⟩ := rr j hj
  exact ⟨by rw [sI_ne _ _ (by omega), nu_n _ _ (by omega)]; exact a1, by rw [sI_ne _ _ (by omega), nu_n _ _ (by omega)]; exact a2, by rw [sI_ne _ _ (by omega), nu_n _ _ (by omega)]; exact a3, by rw [sI_ne _ _ (by omega), nu_n _ _ (by omega)]; exact a4⟩
theorem BR.congr {c2 : NF} (h : BR μ a c) (h18 : c 18 ≤ 7) (e : ∀ j, j < 33 → c2 j = c j) : BR μ a c2 := by
  obtain ⟨r4, r5, r6, r7, r8, rr⟩ := h
  refine ⟨by rw [e 18 (by omega)]; exact r4, by rw [e 0 (by omega)]; exact r5, by rw [e 1 (by omega)]; exact r6, by rw [e 2 (by omega)]; exact r7, by rw [e 3 (by omega)]; exact r8, fun j hj => ?_⟩
  rw [e 18 (by omega)] at hj
  rw [e (19 + j) (by omega), e (4 + j) (by omega), e (11 + j) (by omega), e (26 + j) (by omega)]
  exact rr j hj
end BRL
theorem rdyM_2 (c : NF) (v i : Nat) : rdyM (nu c 2 v) i = rdyM c i := by
  unfold rdyM
  rw [nu_n _ _ (by omega), nu_n _ _ (by omega), nu_n _ _ (by omega), nu_n _ _ (by omega), nu_n _ _ (by omega)]
theorem nxM_2 (c : NF) (v i : Nat) : nxM (nu c 2 v) i = nxM c i := by
  unfold nxM
  rw [nu_n _ _ (by omega), nu_n _ _ (by omega), nu_n _ _ (by omega), nu_n _ _ (by omega)]
theorem jmM_2 (c : NF) (v i : Nat) : jmM (nu c 2 v) i = jmM c i := by
  unfold jmM
  rw [nu_n _ _ (by omega)]
theorem wfc.nu2 {c : NF} (h : wfc c) (v : Nat) : wfc (nu c 2 v) := by
  obtain ⟨h1, h2, h3, h4⟩ := h
  refine ⟨by rw [nu_n _ _ (by omega)]; exact h1, by rw [nu_n _ _ (by omega)]; exact h2, ?_, fun i hi => ?_⟩
  · rw [nu_n _ _ (by omega), nu_n _ _ (by omega)]; exact h3
  · rw [nu_n _ _ (by omega), nu_n _ _ (by omega), nu_n _ _ (by omega), nu_n _ _ (by omega)]; exact h4 i hi
theorem wfc.nu1 {c : NF} (h : wfc c) (v : Nat) : wfc (nu c 1 v) := by
  obtain ⟨h1, h2, h3, h4⟩ := h
  refine ⟨by rw [nu_n _ _ (by omega)]; exact h1, by rw [nu_n _ _ (by omega)]; exact h2, ?_, fun i hi => ?_⟩
  · rw [nu_n _ _ (by omega), nu_n _ _ (by omega)]; exact h3
  · rw [nu_n _ _ (by omega), nu_n _ _ (by omega), nu_n _ _ (by omega), nu_n _ _ (by omega)]; exact h4 i hi
theorem wfc.jam {c : NF} (h : wfc c) : c 3 < 128 := by
  have h1 := h.1
  have h3 := h.2.2.1
  have : 2 ^ c 18 ≤ 2 ^ 7 := Nat.pow_le_pow_right (by omega) h1
  omega
theorem wfc.show {c : NF} (h : wfc c) {i v : Nat} (hi : i < 7) (hv : v < 10) : wfc (nu c (4 + i) v) := by
  obtain ⟨h1, h2, h3, h4⟩ := h
  refine ⟨by rw [nu_n _ _ (by omega)]; exact h1, by rw [nu_n _ _ (by omega)]; exact h2, ?_, fun j hj => ?_⟩
  · rw [nu_n _ _ (by omega), nu_n _ _ (by omega)]; exact h3
  obtain ⟨a1, a2, a3, a4⟩ := h4 j hj
  refine ⟨?_, by rw [nu_n _ _ (by omega)]; exact a2, by rw [nu_n _ _ (by omega)]; exact a3, by rw [nu_n _ _ (by omega)]; exact a4⟩
  by_cases e : j = i
  · subst e; rw [nu_s]; exact hv
  · rw [nu_n _ _ (by omega)]; exact a1
theorem wfc.goal {c : NF} (h : wfc c) {i v : Nat} (hi : i < 7) (hv : v < 10) : wfc (nu c (11 + i) v) := by
  obtain ⟨h1, h2, h3, h4⟩ := h
  refine ⟨by rw [nu_n _ _ (by omega)]; exact h1, by rw [nu_n _ _ (by omega)]; exact h2, ?_, fun j hj => ?_⟩
  · rw [nu_n _ _ (by omega), nu_n _ _ (by omega)]; exact h3
  obtain ⟨a1, a2, a3, a4⟩ := h4 j hj
  refine ⟨by rw [nu_n _ _ (by omega)]; exact a1, ?_, by rw [nu_n _ _ (by omega)]; exact a3, by rw [nu_n _ _ (by omega)]; exact a4⟩
  by_cases e : j = i
  · subst e; rw [nu_s]; exact hv
  · rw [nu_n _ _ (by omega)]; exact a2
