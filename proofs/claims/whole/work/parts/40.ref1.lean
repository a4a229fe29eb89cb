-- ===== the reference: a row of 33 numbers =====
def isA (a : Nat) : Prop := am_in a ∧ shp a = (0, 33, [])
def MR (μ : am_M) (a : Nat) (c : NF) : Prop := ∀ i, i < 33 → μ.1 a i = nI (c i)
theorem isA_105 : isA 105 := ⟨by decide, rfl⟩
theorem isA_106 : isA 106 := ⟨by decide, rfl⟩
theorem isA_107 : isA 107 := ⟨by decide, rfl⟩
theorem isA_108 : isA 108 := ⟨by decide, rfl⟩
theorem MR.set {μ : am_M} {a : Nat} {c : NF} (h : MR μ a c) (i v : Nat) : MR (sI μ a (upd (μ.1 a) i (nI v))) a (nu c i v) := by
  intro q hq
  rw [sI_same]
  by_cases e : q = i
  · subst e; rw [pk_us, nu_s]
  · rw [pk_un e, nu_n _ _ e]; exact h q hq
theorem MR.kept {μ μ' : am_M} {a : Nat} {c : NF} (h : MR μ a c) (e : μ'.1 a = μ.1 a) : MR μ' a c := fun i hi => by rw [e]; exact h i hi
section M1
variable {X : Nat × (Nat → Int32)} {d : Nat} {μ : am_M} {a b i n : Nat} {c : NF} {x y z : Int32}
theorem r_in : cp X (d + 1) kX8_in [.int x, .int y, .int z] μ (qi (fun v μ' => μ' = μ ∧ v = nI (bN (decide (y ≤ x ∧ x ≤ z))))) := by
  refine cp_of ok_X8_in (L := [.int x, .int y, .int z]) rfl ?_
  refine tr_iload_n dX8_in_0 rfl ?_
  refine tr_iload_n dX8_in_1 rfl ?_
  -- at 2: .if_icmp .lt 12
  refine tr_icmp_lt (tgt := 14) dX8_in_2 (by decide) (fun h1 => ?_) (fun h1 => ?_)
  · refine tr_iconst (v := nI 0) dX8_in_14 (by decide) ?_
    -- at 15: .ireturn
    refine tr_iret dX8_in_15 (by first | exact trivial | rfl) ⟨rfl, by rw [decide_eq_false (fun q => absurd q.1 (Int32.not_le.mpr h1))]; rfl⟩
  · refine tr_iload_n dX8_in_5 rfl ?_
    refine tr_iload_n dX8_in_6 rfl ?_
    -- at 7: .if_icmp .gt 7
    refine tr_icmp_gt (tgt := 14) dX8_in_7 (by decide) (fun h2 => ?_) (fun h2 => ?_)
    · refine tr_iconst (v := nI 0) dX8_in_14 (by decide) ?_
      -- at 15: .ireturn
      refine tr_iret dX8_in_15 (by first | exact trivial | rfl) ⟨rfl, by rw [decide_eq_false (fun q => absurd q.2 (Int32.not_le.mpr h2))]; rfl⟩
    · refine tr_iconst (v := nI 1) dX8_in_10 (by decide) ?_
      refine tr_goto (tgt := 15) dX8_in_11 (by decide) ?_
      -- at 15: .ireturn
      refine tr_iret dX8_in_15 (by first | exact trivial | rfl) ⟨rfl, by rw [decide_eq_true ⟨Int32.not_lt.mp h1, Int32.not_lt.mp h2⟩]; rfl⟩
theorem l_copies (hA : isA a) (hB : isA b) (hab : a ≠ b) (hr : MR μ a c) : ∀ (m k : Nat) (μ1 : am_M), k + m = 33 → same μ μ1 [b] → (∀ i, i < k → μ1.1 b i = nI (c i)) → tw X d kX8_copies (qv (fun μ' => same μ μ' [b] ∧ MR μ' b c)) 2 [.ref a, .ref b, .int (nI k)] [] μ1
  | m, k, μ1, hkm, hs, hb => by
    have hA' := hA
    have hB' := hB
    obtain ⟨i0, s0⟩ := hA
    obtain ⟨i1, s1⟩ := hB
    refine tr_iload_n dX8_copies_2 rfl ?_
    refine tr_bipush (v := nI 33) dX8_copies_3 (by decide) ?_
    -- at 5: .if_icmp .ge 15
    refine tr_geN (tgt := 20) dX8_copies_5 (by decide) (by omega) (by omega) (fun h1 => ?_) (fun h1 => ?_)
    · obtain rfl : k = 33 := by omega
      -- at 20: .return_
      refine tr_vret dX8_copies_20 (by first | exact trivial | rfl) ⟨hs, hb⟩
    · have k1 : μ1.1 a k = nI (c k) := by rw [hs.1 a (by simp; exact hab)]; exact hr k h1
      refine tr_aload_n dX8_copies_8 rfl ?_
      refine tr_iload_n dX8_copies_9 rfl ?_
      refine tr_aload_n dX8_copies_10 rfl ?_
      refine tr_iload_n dX8_copies_11 rfl ?_
      refine tr_iald dX8_copies_12 (by first | assumption | decide) (by first | assumption | rfl) rfl (by omega) (by omega) (by first | assumption | rfl) ?_
      refine tr_iast dX8_copies_13 (by first | assumption | decide) (by first | assumption | rfl) rfl (by omega) (by omega) ?_
      -- at 14: .iinc 2 1
      have hs2 := hs.put (a := b) (upd (μ1.1 b) k (nI (c k))) (by simp)
      have hb2 : ∀ i, i < k + 1 → (sI μ1 b (upd (μ1.1 b) k (nI (c k)))).1 b i = nI (c i) := by
        intro q hq
        rw [sI_same]
        by_cases e : q = k
        · subst e; rw [pk_us]
        · rw [pk_un e]; exact hb q (by omega)
      generalize sI μ1 b (upd (μ1.1 b) k (nI (c k))) = μ2 at hs2 hb2 ⊢
      first | with_reducible refine tr_iincN_2 dX8_copies_14 (by decide) rfl ?_ | refine tr_iinc_2 dX8_copies_14 (by decide) rfl ?_
      refine tr_goto (tgt := 2) dX8_copies_17 (by decide) ?_
      -- at 2: .iload_n 2
      exact l_copies hA' hB' hab hr (m - 1) (k + 1) μ2 (by omega) hs2 hb2
  termination_by m => m
theorem r_copies (hA : isA a) (hB : isA b) (hab : a ≠ b) (hr : MR μ a c) : cp X (d + 1) kX8_copies [.ref a, .ref b] μ (qv (fun μ' => same μ μ' [b] ∧ MR μ' b c)) := by
  refine cp_of ok_X8_copies (L := [.ref a, .ref b, .float 0]) rfl ?_
  refine tr_iconst (v := nI 0) dX8_copies_0 (by decide) ?_
  refine tr_istore_n_2 dX8_copies_1 (by decide) rfl ?_
  -- at 2: .iload_n 2
  exact l_copies hA hB hab hr 33 0 μ (by omega) (same.rf μ [b]) (fun i hi => by omega)
theorem r_has {s : Nat} (hs : s < 128) (hi : i < 7) : cp X (d + 1) kX8_has [.int (nI s), .int (nI i)] μ (qi (fun v μ' => μ' = μ ∧ v = nI (bN (s.testBit i)))) := by
  refine cp_of ok_X8_has (L := [.int (nI s), .int (nI i)]) rfl ?_
  refine tr_iload_n dX8_has_0 rfl ?_
  refine tr_iload_n dX8_has_1 rfl ?_
  refine tr_ishr dX8_has_2 ?_
  refine tr_iconst (v := nI 1) dX8_has_3 (by decide) ?_
  refine tr_iand dX8_has_4 ?_
  -- at 5: .iconst 1
  refine tr_v (jam_bit _ hs i hi) ?_
  have hb : bN (s.testBit i) < 2 ^ 31 := by unfold bN; split <;> omega
  refine tr_iconst (v := nI 1) dX8_has_5 (by decide) ?_
  -- at 6: .if_icmp .ne 7
  refine tr_neN (tgt := 13) dX8_has_6 (by decide) (by omega) (by omega) (fun h1 => ?_) (fun h1 => ?_)
  · refine tr_iconst (v := nI 0) dX8_has_13 (by decide) ?_
    -- at 14: .ireturn
    refine tr_iret dX8_has_14 (by first | exact trivial | rfl) ⟨rfl, by cases e : s.testBit i with
      | false => rfl
      | true => rw [e] at h1; exact absurd rfl h1⟩
  · refine tr_iconst (v := nI 1) dX8_has_9 (by decide) ?_
    refine tr_goto (tgt := 14) dX8_has_10 (by decide) ?_
    -- at 14: .ireturn
    refine tr_iret dX8_has_14 (by first | exact trivial | rfl) ⟨rfl, by rw [h1]⟩
theorem r_skip {sh g mk : Nat} (h1 : sh < 10) (h2 : g < 10) (h3 : mk < 10) : cp X (d + 1) kX8_skipsOn [.int (nI sh), .int (nI g), .int (nI mk)] μ (qi (fun v μ' => μ' = μ ∧ v = nI (skM sh g mk))) := by
  refine cp_of ok_X8_skipsOn (L := [.int (nI sh), .int (nI g), .int (nI mk), .float 0]) rfl ?_
  refine tr_iload_n dX8_skipsOn_0 rfl ?_
  refine tr_iconst (v := nI 1) dX8_skipsOn_1 (by decide) ?_
  first | with_reducible refine tr_iaddN dX8_skipsOn_2 ?_ | refine tr_iadd dX8_skipsOn_2 ?_
  refine tr_bipush (v := nI 10) dX8_skipsOn_3 (by decide) ?_
  first | with_reducible refine tr_iremN dX8_skipsOn_5 (by omega) (by omega) (by omega) ?_ | refine tr_irem dX8_skipsOn_5 (by decide) ?_
  refine tr_istore_n_3 dX8_skipsOn_6 (by decide) rfl ?_
  refine tr_iload_n dX8_skipsOn_7 rfl ?_
  refine tr_iload_n dX8_skipsOn_8 rfl ?_
  -- at 9: .if_icmp .ne 17
  refine tr_neN (tgt := 26) dX8_skipsOn_9 (by decide) (by omega) (by omega) (fun h4 => ?_) (fun h4 => ?_)
  · refine tr_iload_n dX8_skipsOn_26 rfl ?_
    -- at 27: .ireturn
    refine tr_iret dX8_skipsOn_27 (by first | exact trivial | rfl) ⟨rfl, by rw [skM, if_neg (fun q => h4 q.1)]⟩
  · refine tr_iload_n dX8_skipsOn_12 rfl ?_
    refine tr_iload_n dX8_skipsOn_13 rfl ?_
    -- at 14: .if_icmp .eq 12
    refine tr_eqN (tgt := 26) dX8_skipsOn_14 (by decide) (by omega) (by omega) (fun h5 => ?_) (fun h5 => ?_)
    · refine tr_iload_n dX8_skipsOn_26 rfl ?_
      -- at 27: .ireturn
      refine tr_iret dX8_skipsOn_27 (by first | exact trivial | rfl) ⟨rfl, by rw [skM, if_neg (fun q => q.2 h5)]⟩
    · refine tr_iload_n dX8_skipsOn_17 rfl ?_
      refine tr_iconst (v := nI 2) dX8_skipsOn_18 (by decide) ?_
      first | with_reducible refine tr_iaddN dX8_skipsOn_19 ?_ | refine tr_iadd dX8_skipsOn_19 ?_
      refine tr_bipush (v := nI 10) dX8_skipsOn_20 (by decide) ?_
      first | with_reducible refine tr_iremN dX8_skipsOn_22 (by omega) (by omega) (by omega) ?_ | refine tr_irem dX8_skipsOn_22 (by decide) ?_
      refine tr_goto (tgt := 27) dX8_skipsOn_23 (by decide) ?_
      -- at 27: .ireturn
      refine tr_iret dX8_skipsOn_27 (by first | exact trivial | rfl) ⟨rfl, by rw [skM, if_pos ⟨h4, h5⟩]⟩
theorem r_turned {kd sh g mk : Nat} (h0 : kd < 6) (h1 : sh < 10) (h2 : g < 10) (h3 : mk < 10) : cp X (d + 2) kX8_turned [.int (nI kd), .int (nI sh), .int (nI g), .int (nI mk)] μ (qi (fun v μ' => μ' = μ ∧ v = nI (trnM kd sh g mk))) := by
  have hsk := skM_lt sh g mk
  refine cp_of ok_X8_turned (L := [.int (nI kd), .int (nI sh), .int (nI g), .int (nI mk), .float 0]) rfl ?_
  refine tr_iload_n dX8_turned_0 rfl ?_
  refine tr_iconst (v := nI 3) dX8_turned_1 (by decide) ?_
  -- at 2: .if_icmp .ne 11
  refine tr_neN (tgt := 13) dX8_turned_2 (by decide) (by omega) (by omega) (fun h4 => ?_) (fun h4 => ?_)
  · have hrest : (kd = 2 ∨ kd = 5) → tw X (d + 1) kX8_turned (qi (fun v μ' => μ' = μ ∧ v = nI (trnM kd sh g mk))) 30 [.int (nI kd), .int (nI sh), .int (nI g), .int (nI mk), .float 0] [] μ := by
      intro hk
      refine tr_iload_n dX8_turned_30 rfl ?_
      refine tr_iload_n dX8_turned_31 rfl ?_
      refine tr_iload_n dX8_turned_32 rfl ?_
      -- at 33: .invokestatic 114
      refine tr_Si (As := [_, _, _]) dX8_turned_33 fm_RX8_114 rfl rfl (Nat.le_of_ble_eq_true rfl) (r_skip (d := d) h1 h2 h3) (fun v μ1 ⟨e1, e2⟩ => ?_)
      subst μ1; subst v
      refine tr_istore_4 dX8_turned_36 (by decide) rfl ?_
      refine tr_iload_n dX8_turned_38 rfl ?_
      refine tr_iconst (v := nI 2) dX8_turned_39 (by decide) ?_
      -- at 40: .if_icmp .eq 9
      refine tr_eqN (tgt := 49) dX8_turned_40 (by decide) (by omega) (by omega) (fun h5 => ?_) (fun h5 => ?_)
      · refine tr_iload dX8_turned_49 rfl ?_
        refine tr_goto (tgt := 61) dX8_turned_51 (by decide) ?_
        -- at 61: .ireturn
        refine tr_iret dX8_turned_61 (by first | exact trivial | rfl) ⟨rfl, by rw [trnM, if_neg h4, if_pos h5]⟩
      · have h6 : kd = 5 := by omega
        refine tr_iload dX8_turned_43 rfl ?_
        refine tr_iload_n dX8_turned_45 rfl ?_
        -- at 46: .if_icmp .ne 8
        refine tr_neN (tgt := 54) dX8_turned_46 (by decide) (by omega) (by omega) (fun h7 => ?_) (fun h7 => ?_)
        · refine tr_iload dX8_turned_54 rfl ?_
          refine tr_iload_n dX8_turned_56 rfl ?_
          refine tr_iload_n dX8_turned_57 rfl ?_
          -- at 58: .invokestatic 114
          refine tr_Si (As := [_, _, _]) dX8_turned_58 fm_RX8_114 rfl rfl (Nat.le_of_ble_eq_true rfl) (r_skip (d := d) hsk h2 h3) (fun v μ1 ⟨e1, e2⟩ => ?_)
          subst μ1; subst v
          refine tr_iret dX8_turned_61 (by first | exact trivial | rfl) ⟨rfl, by rw [trnM, if_neg h4, if_neg h5, if_pos h6, if_neg h7]⟩
        · refine tr_iload dX8_turned_49 rfl ?_
          refine tr_goto (tgt := 61) dX8_turned_51 (by decide) ?_
          -- at 61: .ireturn
          refine tr_iret dX8_turned_61 (by first | exact trivial | rfl) ⟨rfl, by rw [trnM, if_neg h4, if_neg h5, if_pos h6, if_pos h7]⟩
    refine tr_iload_n dX8_turned_13 rfl ?_
    refine tr_iconst (v := nI 2) dX8_turned_14 (by decide) ?_
    -- at 15: .if_icmp .eq 15
    refine tr_eqN (tgt := 30) dX8_turned_15 (by decide) (by omega) (by omega) (fun h5 => ?_) (fun h5 => ?_)
    · exact hrest (Or.inl h5)
    · refine tr_iload_n dX8_turned_18 rfl ?_
      refine tr_iconst (v := nI 5) dX8_turned_19 (by decide) ?_
      -- at 20: .if_icmp .eq 10
      refine tr_eqN (tgt := 30) dX8_turned_20 (by decide) (by omega) (by omega) (fun h6 => ?_) (fun h6 => ?_)
      · exact hrest (Or.inr h6)
      · refine tr_iload_n dX8_turned_23 rfl ?_
        refine tr_iconst (v := nI 1) dX8_turned_24 (by decide) ?_
        first | with_reducible refine tr_iaddN dX8_turned_25 ?_ | refine tr_iadd dX8_turned_25 ?_
        refine tr_bipush (v := nI 10) dX8_turned_26 (by decide) ?_
        first | with_reducible refine tr_iremN dX8_turned_28 (by omega) (by omega) (by omega) ?_ | refine tr_irem dX8_turned_28 (by decide) ?_
        -- at 29: .ireturn
        refine tr_iret dX8_turned_29 (by first | exact trivial | rfl) ⟨rfl, by rw [trnM, if_neg h4, if_neg h5, if_neg h6]⟩
  · refine tr_iload_n dX8_turned_5 rfl ?_
    refine tr_bipush (v := nI 9) dX8_turned_6 (by decide) ?_
    first | with_reducible refine tr_iaddN dX8_turned_8 ?_ | refine tr_iadd dX8_turned_8 ?_
    refine tr_bipush (v := nI 10) dX8_turned_9 (by decide) ?_
    first | with_reducible refine tr_iremN dX8_turned_11 (by omega) (by omega) (by omega) ?_ | refine tr_irem dX8_turned_11 (by decide) ?_
    -- at 12: .ireturn
    refine tr_iret dX8_turned_12 (by first | exact trivial | rfl) ⟨rfl, by rw [trnM, if_pos h4]⟩
end M1
