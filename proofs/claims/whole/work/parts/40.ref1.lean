-- ===== the reference: a row of 33 numbers =====
def isA (a : Nat) : Prop := am_in a ∧ shp a = (0, 33, [])
def MR (μ : am_M) (a : Nat) (c : NF) : Prop := ∀ i, i < 33 → μ.1 a i = nI (c i)
theorem isA_105 : isA 105 := ⟨by decide, rfl⟩
theorem isA_106 : isA 106 := ⟨by decide, rfl⟩
theorem isA_107 : isA 107 := ⟨by decide, rfl⟩
theorem isA_108 : isA 108 := ⟨by decide, rfl⟩
theorem MR.set {μ : am_M} {a : Nat} {c : NF} (h : MR μ a c) (i v : Nat) : MR (sI μ a (upd (μ.1 a) i (nI v))) a (nu c i v) := by
  intro q hq
  rw [sI_same]
  by_cases e : q = i
  · subst e; rw [pk_us, nu_s]
  · rw [pk_un e, nu_n _ _ e]; exact h q hq
theorem MR.kept {μ μ' : am_M} {a : Nat} {c : NF} (h : MR μ a c) (e : μ'.1 a = μ.1 a) : MR μ' a c := fun i hi => by rw [e]; exact h i hi
section M1
variable {X : Nat × (Nat → Int32)} {d : Nat} {μ : am_M} {a b i n : Nat} {c : NF} {x y z : Int32}
theorem r_in : cp X (d + 1) kX8_in [.int x, .int y, .int z] μ (qi (fun v μ' => μ' = μ ∧ v = nI (bN (decide (y ≤ x ∧ x ≤ z))))) := by
  refine cp_of ok_X8_in (L := [.int x, .int y, .int z]) rfl ?_
  refine tr_iload_n dX8_in_0 rfl ?_
  refine tr_iload_n dX8_in_1 rfl ?_
  -- at 2: .if_icmp .lt 12
  refine tr_icmp_lt (tgt := 14) dX8_in_2 (by decide) (fun h1 => ?_) (fun h1 => ?_)
  · refine tr_iconst (v := nI 0) dX8_in_14 (by decide) ?_
    -- at 15: .ireturn
    refine tr_iret dX8_in_15 (by first | exact trivial | rfl) ⟨rfl, by rw [decide_eq_false (fun q => absurd q.1 (Int32.not_le.mpr h1))]; rfl⟩
  · refine tr_iload_n dX8_in_5 rfl ?_
    refine tr_iload_n dX8_in_6 rfl ?_
    -- at 7: .if_icmp .gt 7
    refine tr_icmp_gt (tgt := 14) dX8_in_7 (by decide) (fun h2 => ?_) (fun h2 => ?_)
    · refine tr_iconst (v := nI 0) dX8_in_14 (by decide) ?_
      -- at 15: .ireturn
      refine tr_iret dX8_in_15 (by first | exact trivial | rfl) ⟨rfl, by rw [decide_eq_false (fun q => absurd q.2 (Int32.not_le.mpr h2))]; rfl⟩
    · refine tr_iconst (v := nI 1) dX8_in_10 (by decide) ?_
      refine tr_goto (tgt := 15) dX8_in_11 (by decide) ?_
      -- at 15: .ireturn
      refine tr_iret dX8_in_15 (by first | exact trivial | rfl) ⟨rfl, by rw [decide_eq_true ⟨Int32.not_lt.mp h1, Int32.not_lt.mp h2⟩]; rfl⟩
theorem l_copies (hA : isA a) (hB : isA b) (hab : a ≠ b) (hr : MR μ a c) : ∀ (m k : Nat) (μ1 : am_M), k + m = 33 → same μ μ1 [b] → (∀ i, i < k → μ1.1 b i = nI (c i)) → tw X d kX8_copies (qv (fun μ' => same μ μ' [b] ∧ MR μ' b c)) 2 [.ref a, .ref b, .int (nI k)] [] μ1
  | m, k, μ1, hkm, hs, hb => by
    have hA' := hA
    have hB' := hB
    obtain ⟨i0, s0⟩ := hA
    obtain ⟨i1, s1⟩ := hB
    refine tr_iload_n dX8_copies_2 rfl ?_
    refine tr_bipush (v := nI 33) dX8_copies_3 (by decide) ?_
    -- at 5: .if_icmp .ge 15
    refine tr_geN (tgt := 20) dX8_copies_5 (by decide) (by omega) (by omega) (fun h1 => ?_) (fun h1 => ?_)
    · obtain rfl : k = 33 := by omega
      -- at 20: .return_
      refine tr_vret dX8_copies_20 (by first | exact trivial | rfl) ⟨hs, hb⟩
    · have k1 : μ1.1 a k = nI (c k) := by rw [hs.1 a (by simp; exact hab)]; exact hr k h1
      refine tr_aload_n dX8_copies_8 rfl ?_
      refine tr_iload_n dX8_copies_9 rfl ?_
      refine tr_aload_n dX8_copies_10 rfl ?_
      refine tr_iload_n dX8_copies_11 rfl ?_
      refine tr_iald dX8_copies_12 (by first | assumption | decide) (by first | assumption | rfl) rfl (by omega) (by omega) (by first | assumption | rfl) ?_
      refine tr_iast dX8_copies_13 (by first | assumption | decide) (by first | assumption | rfl) rfl (by omega) (by omega) ?_
      -- at 14: .iinc 2 1
      have hs2 := hs.put (a := b) (upd (μ1.1 b) k (nI (c k))) (by simp)
      have hb2 : ∀ i, i < k + 1 → (sI μ1 b (upd (μ1.1 b) k (nI (c k)))).1 b i = nI (c i) := by
        intro q hq
        rw [sI_same]
        by_cases e : q = k
        · subst e; rw [pk_us]
        · rw [pk_un e]; exact hb q (by omega)
      generalize sI μ1 b (upd (μ1.1 b) k (nI (c k))) = μ2 at hs2 hb2 ⊢
      first | with_reducible refine tr_iincN_2 dX8_copies_14 (by decide) rfl ?_ | refine tr_iinc_2 dX8_copies_14 (by decide) rfl ?_
      refine tr_goto (tgt := 2) dX8_copies_17 (by decide) ?_
      -- at 2: .iload_n 2
      exact l_copies hA' hB' hab hr (m - 1) (k + 1) μ2 (by omega) hs2 hb2
  termination_by m => m
theorem r_copies (hA : isA a) (hB : isA b) (hab : a ≠ b) (hr : MR μ a c) : cp X (d + 1) kX8_copies [.ref a, .ref b] μ (qv (fun μ' => same μ μ' [b] ∧ MR μ' b c)) := by
  refine cp_of ok_X8_copies (L := [.ref a, .ref b, .float 0]) rfl ?_
  refine tr_iconst (v := nI 0) dX8_copies_0 (by decide) ?_
  refine tr_istore_n_2 dX8_copies_1 (by decide) rfl ?_
  -- at 2: .iload_n 2
  exact l_copies hA hB hab hr 33 0 μ (by omega) (same.rf μ [b]) (fun i hi => by omega)
end M1
