-- ===== the reference: rows and texts =====
section M3
variable {X : Nat × (Nat → Int32)} {d : Nat} {μ : am_M} {σ : SG} {r x y z w : Int32} {i j n : Nat} {f : Nat → Int32}
theorem r_lay (h : MI μ σ) : cp X (d + 3) kX8_lay [.ref 99, .int r, .int x, .int y] μ (PM μ (S_lay σ r x y)) := by
  refine cp_of ok_X8_lay (L := [.ref 99, .int r, .int x, .int y, .float 0]) rfl ?_
  refine tr_iload_n dX8_lay_0 rfl ?_
  -- at 1: .invokestatic 77
  refine tr_Si (As := [_]) dX8_lay_1 fm_RX8_77 rfl rfl (Nat.le_of_ble_eq_true rfl) (r_isRow) (fun v μ1 ⟨e1, e2⟩ => ?_)
  subst μ1; subst v
  cases hr : ixV r 6 with
  | none =>
    refine tr_ifb1 (tgt := 9) dX8_lay_4 (by decide) (fun h1 => ?_) (fun h1 => ?_)
    · cases h1
    · refine tr_iconst (v := -1) dX8_lay_7 (by decide) ?_
      exact tr_iret dX8_lay_8 (by first | exact trivial | rfl) (pm_same h (by rw [S_lay, hr]))
  | some j =>
    obtain ⟨rfl, hj⟩ := ixV_some (by omega) hr
    have hX := h.1 j hj
    have r0 := hX.sz
    refine tr_ifb1 (tgt := 9) dX8_lay_4 (by decide) (fun h1 => ?_) (fun h1 => ?_)
    · refine tr_aload_n dX8_lay_9 rfl ?_
      refine tr_getR dX8_lay_10 fg_RX8_7 (by first | assumption | decide) (by first | assumption | rfl) rfl (by omega) ?_
      refine tr_iload_n dX8_lay_13 rfl ?_
      refine tr_iald dX8_lay_14 (by first | assumption | decide) (by first | assumption | rfl) rfl (by omega) (by omega) (by first | assumption | rfl) ?_
      -- at 15: .ifCond .ge 9
      cases ho : sR σ j with
      | none =>
        refine tr_if_ge (tgt := 24) dX8_lay_15 (by decide) (fun h2 => ?_) (fun h2 => ?_)
        · exact absurd h2 (by decide)
        · refine tr_aload_n dX8_lay_18 rfl ?_
          refine tr_iconst (v := nI 1) dX8_lay_19 (by decide) ?_
          refine tr_Vi (As := [_]) dX8_lay_20 fm_RX8_81 rfl rfl (by first | assumption | decide) (by first | assumption | rfl) (Nat.le_of_ble_eq_true rfl) (r_finds (k := 1) (by omega) h) (fun v μ1 ⟨e1, e2, e3⟩ => ?_)
          exact tr_iret dX8_lay_23 (by first | exact trivial | rfl) (pm_e (by simp only [S_lay, hr, ho]) e1 e2 e3)
      | some w =>
        obtain ⟨n, f⟩ := w
        rw [ho] at hX
        have r1 := hX.1
        have r2 := hX.2.1
        refine tr_if_ge (tgt := 24) dX8_lay_15 (by decide) (fun h2 => ?_) (fun h2 => ?_)
        · refine tr_iload_n dX8_lay_24 rfl ?_
          refine tr_iconst (v := nI 0) dX8_lay_25 (by decide) ?_
          refine tr_aload_n dX8_lay_26 rfl ?_
          refine tr_getR dX8_lay_27 fg_RX8_7 (by first | assumption | decide) (by first | assumption | rfl) rfl (by omega) ?_
          refine tr_iload_n dX8_lay_30 rfl ?_
          refine tr_iald dX8_lay_31 (by first | assumption | decide) (by first | assumption | rfl) rfl (by omega) (by omega) (by first | assumption | rfl) ?_
          refine tr_iconst (v := nI 1) dX8_lay_32 (by decide) ?_
          -- at 33: .isub
          refine tr_isub dX8_lay_33 ?_
          refine tr_Si (As := [_, _, _]) dX8_lay_34 fm_RX8_73 rfl rfl (Nat.le_of_ble_eq_true rfl) (r_in) (fun v μ1 ⟨e1, e2⟩ => ?_)
          subst μ1; subst v
          rw [in_ix1 x (by omega)]
          cases hx : ixV x n with
          | none =>
            refine tr_ifb1 (tgt := 46) dX8_lay_37 (by decide) (fun h3 => ?_) (fun h3 => ?_)
            · cases h3
            · refine tr_aload_n dX8_lay_40 rfl ?_
              refine tr_iconst (v := nI 2) dX8_lay_41 (by decide) ?_
              refine tr_Vi (As := [_]) dX8_lay_42 fm_RX8_81 rfl rfl (by first | assumption | decide) (by first | assumption | rfl) (Nat.le_of_ble_eq_true rfl) (r_finds (k := 2) (by omega) h) (fun v μ1 ⟨e1, e2, e3⟩ => ?_)
              exact tr_iret dX8_lay_45 (by first | exact trivial | rfl) (pm_e (by simp only [S_lay, hr, ho, hx]) e1 e2 e3)
          | some q =>
            obtain ⟨rfl, hq⟩ := ixV_some (by omega) hx
            have r3 := hX.2.2 q hq
            refine tr_ifb1 (tgt := 46) dX8_lay_37 (by decide) (fun h3 => ?_) (fun h3 => ?_)
            · refine tr_aload_n dX8_lay_46 rfl ?_
              refine tr_getR dX8_lay_47 fg_RX8_13 (by first | assumption | decide) (by first | assumption | rfl) rfl (by omega) ?_
              refine tr_bipush (v := nI 40) dX8_lay_50 (by decide) ?_
              refine tr_iload_n dX8_lay_52 rfl ?_
              first | with_reducible refine tr_imulN dX8_lay_53 ?_ | refine tr_imul dX8_lay_53 ?_
              refine tr_iload_n dX8_lay_54 rfl ?_
              first | with_reducible refine tr_iaddN dX8_lay_55 ?_ | refine tr_iadd dX8_lay_55 ?_
              refine tr_iald dX8_lay_56 (by first | assumption | decide) (by first | assumption | rfl) rfl (by omega) (by omega) (by first | assumption | rfl) ?_
              refine tr_istore_4 dX8_lay_57 (by decide) rfl ?_
              refine tr_aload_n dX8_lay_59 rfl ?_
              refine tr_getR dX8_lay_60 fg_RX8_13 (by first | assumption | decide) (by first | assumption | rfl) rfl (by omega) ?_
              refine tr_bipush (v := nI 40) dX8_lay_63 (by decide) ?_
              refine tr_iload_n dX8_lay_65 rfl ?_
              first | with_reducible refine tr_imulN dX8_lay_66 ?_ | refine tr_imul dX8_lay_66 ?_
              refine tr_iload_n dX8_lay_67 rfl ?_
              first | with_reducible refine tr_iaddN dX8_lay_68 ?_ | refine tr_iadd dX8_lay_68 ?_
              refine tr_iload_n dX8_lay_69 rfl ?_
              refine tr_iast dX8_lay_70 (by first | assumption | decide) (by first | assumption | rfl) rfl (by omega) (by omega) ?_
              -- at 71: .aload_n 0
              have hs := (sP.rf (fun b => b = 100 ∨ b = 101) μ).put (a := 101) (upd (μ.1 101) (40 * j + q) y) (Or.inr rfl)
              have h2 := h.row (o := some (n, upd f q y)) hs hj ⟨by rw [sI_ne _ _ (by omega)]; exact r1, r2, fun i hi => by
                rw [sI_same]
                by_cases e : i = q
                · subst e; rw [pk_us, pk_us]
                · rw [pk_un (by omega), pk_un e]; exact hX.2.2 i hi⟩ (fun p hp hpj => ⟨by rw [sI_ne _ _ (by omega)], fun i hi => by rw [sI_same, pk_un (by omega)]⟩)
              have hf := hs.fq (fun b hb => by omega)
              generalize sI μ 101 (upd (μ.1 101) (40 * j + q) y) = μ2 at h2 hf ⊢
              refine tr_aload_n dX8_lay_71 rfl ?_
              refine tr_iload dX8_lay_72 rfl ?_
              -- at 74: .invokevirtual 89
              refine tr_Vi (As := [_]) dX8_lay_74 fm_RX8_89 rfl rfl (by first | assumption | decide) (by first | assumption | rfl) (Nat.le_of_ble_eq_true rfl) (r_tells h2) (fun v μ1 ⟨e1, e2, e3⟩ => ?_)
              refine tr_iret dX8_lay_77 (by first | exact trivial | rfl) (pm_e (by simp only [S_lay, hr, ho, hx]) e1 e2 (hf.trans e3))
            · cases h3
        · exact absurd (nI_pos' (show n < 2 ^ 31 by omega)) h2
    · cases h1
theorem r_tear (h : MI μ σ) : cp X (d + 3) kX8_tear [.ref 99, .int r] μ (PM μ (S_tear σ r)) := by
  refine cp_of ok_X8_tear (L := [.ref 99, .int r]) rfl ?_
  refine tr_iload_n dX8_tear_0 rfl ?_
  -- at 1: .invokestatic 77
  refine tr_Si (As := [_]) dX8_tear_1 fm_RX8_77 rfl rfl (Nat.le_of_ble_eq_true rfl) (r_isRow) (fun v μ1 ⟨e1, e2⟩ => ?_)
  subst μ1; subst v
  cases hr : ixV r 6 with
  | none =>
    refine tr_ifb1 (tgt := 9) dX8_tear_4 (by decide) (fun h1 => ?_) (fun h1 => ?_)
    · cases h1
    · refine tr_iconst (v := -1) dX8_tear_7 (by decide) ?_
      exact tr_iret dX8_tear_8 (by first | exact trivial | rfl) (pm_same h (by rw [S_tear, hr]))
  | some j =>
    obtain ⟨rfl, hj⟩ := ixV_some (by omega) hr
    have hX := h.1 j hj
    have r0 := hX.sz
    refine tr_ifb1 (tgt := 9) dX8_tear_4 (by decide) (fun h1 => ?_) (fun h1 => ?_)
    · refine tr_aload_n dX8_tear_9 rfl ?_
      refine tr_getR dX8_tear_10 fg_RX8_7 (by first | assumption | decide) (by first | assumption | rfl) rfl (by omega) ?_
      refine tr_iload_n dX8_tear_13 rfl ?_
      refine tr_iald dX8_tear_14 (by first | assumption | decide) (by first | assumption | rfl) rfl (by omega) (by omega) (by first | assumption | rfl) ?_
      -- at 15: .ifCond .ge 9
      cases ho : sR σ j with
      | none =>
        refine tr_if_ge (tgt := 24) dX8_tear_15 (by decide) (fun h2 => ?_) (fun h2 => ?_)
        · exact absurd h2 (by decide)
        · refine tr_aload_n dX8_tear_18 rfl ?_
          refine tr_iconst (v := nI 1) dX8_tear_19 (by decide) ?_
          refine tr_Vi (As := [_]) dX8_tear_20 fm_RX8_81 rfl rfl (by first | assumption | decide) (by first | assumption | rfl) (Nat.le_of_ble_eq_true rfl) (r_finds (k := 1) (by omega) h) (fun v μ1 ⟨e1, e2, e3⟩ => ?_)
          exact tr_iret dX8_tear_23 (by first | exact trivial | rfl) (pm_e (by simp only [S_tear, hr, ho]) e1 e2 e3)
      | some w =>
        obtain ⟨n, f⟩ := w
        rw [ho] at hX
        have r2 := hX.2.1
        refine tr_if_ge (tgt := 24) dX8_tear_15 (by decide) (fun h2 => ?_) (fun h2 => ?_)
        · refine tr_aload_n dX8_tear_24 rfl ?_
          refine tr_getR dX8_tear_25 fg_RX8_7 (by first | assumption | decide) (by first | assumption | rfl) rfl (by omega) ?_
          refine tr_iload_n dX8_tear_28 rfl ?_
          refine tr_iconst (v := -1) dX8_tear_29 (by decide) ?_
          refine tr_iast dX8_tear_30 (by first | assumption | decide) (by first | assumption | rfl) rfl (by omega) (by omega) ?_
          refine tr_iconst (v := nI 1) dX8_tear_31 (by decide) ?_
          -- at 32: .ireturn
          have hs := (sP.rf (fun b => b = 100 ∨ b = 101) μ).put (a := 100) (upd (μ.1 100) j (-1)) (Or.inl rfl)
          refine tr_iret dX8_tear_32 (by first | exact trivial | rfl) (pm_e (q := (1, gR σ j none)) (by simp only [S_tear, hr, ho]) rfl (h.row (o := none) hs hj (by show (sI μ 100 _).1 100 j = -1; rw [sI_same, pk_us]) (fun p hp hpj => ⟨by rw [sI_same, pk_un hpj], fun i hi => by rw [sI_ne _ _ (by omega)]⟩)) (hs.fq (fun b hb => by omega)))
        · exact absurd (nI_pos' (show n < 2 ^ 31 by omega)) h2
    · cases h1
theorem r_lies {q : Nat} (hq : q < 2 ^ 31) (hj : j < 6) (hX : RX 40 μ 100 101 j (some (n, f))) : cp X (d + 1) kX8_lies [.ref 99, .int (nI j), .int x, .int (nI q)] μ (qi (fun v μ' => μ' = μ ∧ v = nI (bN (holdM n x (nI q))))) := by
  have r1 := hX.1
  have r2 := hX.2.1
  refine cp_of ok_X8_lies (L := [.ref 99, .int (nI j), .int x, .int (nI q)]) rfl ?_
  refine tr_iload_n dX8_lies_0 rfl ?_
  -- at 1: .ifCond .lt 29
  refine tr_if_lt (tgt := 30) dX8_lies_1 (by decide) (fun h1 => ?_) (fun h1 => ?_)
  · refine tr_iconst (v := nI 0) dX8_lies_30 (by decide) ?_
    -- at 31: .ireturn
    refine tr_iret dX8_lies_31 (by first | exact trivial | rfl) ⟨rfl, by rw [holdM, decide_eq_false (fun t => absurd t.1 (Int32.not_le.mpr h1))]; rfl⟩
  · obtain ⟨p, hp, rfl⟩ := nI_of h1
    refine tr_iload_n dX8_lies_4 rfl ?_
    refine tr_aload_n dX8_lies_5 rfl ?_
    refine tr_getR dX8_lies_6 fg_RX8_7 (by first | assumption | decide) (by first | assumption | rfl) rfl (by omega) ?_
    refine tr_iload_n dX8_lies_9 rfl ?_
    refine tr_iald dX8_lies_10 (by first | assumption | decide) (by first | assumption | rfl) rfl (by omega) (by omega) (by first | assumption | rfl) ?_
    -- at 11: .if_icmp .gt 19
    refine tr_gtN (tgt := 30) dX8_lies_11 (by decide) (by omega) (by omega) (fun h2 => ?_) (fun h2 => ?_)
    · refine tr_iconst (v := nI 0) dX8_lies_30 (by decide) ?_
      -- at 31: .ireturn
      refine tr_iret dX8_lies_31 (by first | exact trivial | rfl) ⟨rfl, by
        rw [holdM, decide_eq_false (fun t => ?_)]; rfl
        obtain ⟨t1, t2, t3⟩ := t
        have t2 := (nI_leI hp (by omega)).mp t2
        rw [pk_sub t2] at t3
        have := (nI_leI hq (by omega)).mp t3
        omega⟩
    · refine tr_iload_n dX8_lies_14 rfl ?_
      refine tr_aload_n dX8_lies_15 rfl ?_
      refine tr_getR dX8_lies_16 fg_RX8_7 (by first | assumption | decide) (by first | assumption | rfl) rfl (by omega) ?_
      refine tr_iload_n dX8_lies_19 rfl ?_
      refine tr_iald dX8_lies_20 (by first | assumption | decide) (by first | assumption | rfl) rfl (by omega) (by omega) (by first | assumption | rfl) ?_
      refine tr_iload_n dX8_lies_21 rfl ?_
      first | with_reducible refine tr_isubN dX8_lies_22 (by omega) ?_ | refine tr_isub dX8_lies_22 ?_
      -- at 23: .if_icmp .gt 7
      refine tr_gtN (tgt := 30) dX8_lies_23 (by decide) (by omega) (by omega) (fun h3 => ?_) (fun h3 => ?_)
      · refine tr_iconst (v := nI 0) dX8_lies_30 (by decide) ?_
        -- at 31: .ireturn
        refine tr_iret dX8_lies_31 (by first | exact trivial | rfl) ⟨rfl, by
          rw [holdM, decide_eq_false (fun t => ?_)]; rfl
          obtain ⟨t1, t2, t3⟩ := t
          have t2 := (nI_leI hp (by omega)).mp t2
          rw [pk_sub t2] at t3
          have := (nI_leI hq (by omega)).mp t3
          omega⟩
      · refine tr_iconst (v := nI 1) dX8_lies_26 (by decide) ?_
        refine tr_goto (tgt := 31) dX8_lies_27 (by decide) ?_
        -- at 31: .ireturn
        refine tr_iret dX8_lies_31 (by first | exact trivial | rfl) ⟨rfl, by
          rw [holdM, decide_eq_true]; rfl
          have e : p ≤ n := by omega
          exact ⟨nI_pos' hp, (nI_leI hp (by omega)).mpr e, by rw [pk_sub e]; exact (nI_leI hq (by omega)).mpr (by omega)⟩⟩
theorem l_rcopy (h : MI μ σ) {a b p1 p2 q n1 n2 : Nat} {f1 f2 : Nat → Int32} (ha : a < 6) (hb : b < 6) (hoa : sR σ a = some (n1, f1)) (hob : sR σ b = some (n2, f2)) (g1 : p1 + q ≤ n1) (g2 : p2 + q ≤ n2) : tw X d kX8_copy (PM μ (1, gR σ b (some (n2, va_cpy f1 f2 p1 p2 q)))) 80 [.ref 99, .int (nI a), .int (nI p1), .int (nI b), .int (nI p2), .int (nI q), .float 0] [] μ := by
  have hXa := h.1 a ha
  have hXb := h.1 b hb
  rw [hoa] at hXa
  rw [hob] at hXb
  have k1 := hXa.2.1
  have k2 := hXb.2.1
  refine tr_iconst (v := nI 0) dX8_copy_80 (by decide) ?_
  refine tr_istore_6 dX8_copy_81 (by decide) rfl ?_
  -- at 83: .iload 6
  refine tw_for (n := q) (Lf := fun k => [.ref 99, .int (nI a), .int (nI p1), .int (nI b), .int (nI p2), .int (nI q), .int (nI k)]) (P := fun k μ1 => sP (fun b => b = 102) μ μ1 ∧ ∀ i, i < k → μ1.1 102 i = f1 (p1 + i)) (fun k μ1 hk hP ih => ?_) (fun μ1 hP => ?_) 0 _ (by omega) ⟨sP.rf _ μ, fun i hi => by omega⟩
  · obtain ⟨t1, t2⟩ := hP
    have r3 : μ1.1 101 (40 * a + p1 + k) = f1 (p1 + k) := by
      rw [(t1 101 (by omega)).1, Nat.add_assoc]; exact hXa.2.2 _ (by omega)
    refine tr_iload dX8_copy_83 rfl ?_
    refine tr_iload dX8_copy_85 rfl ?_
    -- at 87: .if_icmp .ge 30
    refine tr_geN (tgt := 117) dX8_copy_87 (by decide) (by omega) (by omega) (fun h1 => ?_) (fun h1 => ?_)
    · omega
    · refine tr_aload_n dX8_copy_90 rfl ?_
      refine tr_getR dX8_copy_91 fg_RX8_16 (by first | assumption | decide) (by first | assumption | rfl) rfl (by omega) ?_
      refine tr_iload dX8_copy_94 rfl ?_
      refine tr_aload_n dX8_copy_96 rfl ?_
      refine tr_getR dX8_copy_97 fg_RX8_13 (by first | assumption | decide) (by first | assumption | rfl) rfl (by omega) ?_
      refine tr_bipush (v := nI 40) dX8_copy_100 (by decide) ?_
      refine tr_iload_n dX8_copy_102 rfl ?_
      first | with_reducible refine tr_imulN dX8_copy_103 ?_ | refine tr_imul dX8_copy_103 ?_
      refine tr_iload_n dX8_copy_104 rfl ?_
      first | with_reducible refine tr_iaddN dX8_copy_105 ?_ | refine tr_iadd dX8_copy_105 ?_
      refine tr_iload dX8_copy_106 rfl ?_
      first | with_reducible refine tr_iaddN dX8_copy_108 ?_ | refine tr_iadd dX8_copy_108 ?_
      refine tr_iald dX8_copy_109 (by first | assumption | decide) (by first | assumption | rfl) rfl (by omega) (by omega) (by first | assumption | rfl) ?_
      refine tr_iast dX8_copy_110 (by first | assumption | decide) (by first | assumption | rfl) rfl (by omega) (by omega) ?_
      first | with_reducible refine tr_iincN_6 dX8_copy_111 (by decide) rfl ?_ | refine tr_iinc_6 dX8_copy_111 (by decide) rfl ?_
      refine tr_goto (tgt := 83) dX8_copy_114 (by decide) ?_
      -- at 83: .iload 6
      refine ih _ ⟨t1.put _ rfl, fun i hi => ?_⟩
      rw [sI_same]
      by_cases e : i = k
      · subst e; rw [pk_us]
      · rw [pk_un e]; exact t2 i (by omega)
  · obtain ⟨t1, t2⟩ := hP
    refine tr_iload dX8_copy_83 rfl ?_
    refine tr_iload dX8_copy_85 rfl ?_
    -- at 87: .if_icmp .ge 30
    refine tr_geN (tgt := 117) dX8_copy_87 (by decide) (by omega) (by omega) (fun h1 => ?_) (fun h1 => ?_)
    · have h0 := h.scr (t1.wide (fun b hb => Or.inl hb))
      have hf0 := t1.fq (fun b hb => by omega)
      have hXb := h0.1 b hb
      rw [hob] at hXb
      refine tr_iconst (v := nI 0) dX8_copy_117 (by decide) ?_
      refine tr_istore_6 dX8_copy_118 (by decide) rfl ?_
      -- at 120: .iload 6
      refine tw_for (n := q) (Lf := fun k => [.ref 99, .int (nI a), .int (nI p1), .int (nI b), .int (nI p2), .int (nI q), .int (nI k)]) (P := fun k μ2 => sP (fun b => b = 100 ∨ b = 101) μ1 μ2 ∧ μ2.1 100 = μ1.1 100 ∧ (∀ i, i < n2 → μ2.1 101 (40 * b + i) = va_cpy f1 f2 p1 p2 k i) ∧ ∀ p, p < 6 → p ≠ b → ∀ i, i < 40 → μ2.1 101 (40 * p + i) = μ1.1 101 (40 * p + i)) (fun k μ2 hk hP ih => ?_) (fun μ2 hP => ?_) 0 _ (by omega) ⟨sP.rf _ μ1, rfl, fun i hi => by rw [pk_cpy_out (by omega)]; exact hXb.2.2 i hi, fun p hp hpb i hi => rfl⟩
      · obtain ⟨u1, u2, u3, u4⟩ := hP
        have r3 : μ2.1 102 k = f1 (p1 + k) := by
          rw [(u1 102 (by omega)).1]; exact t2 _ (by omega)
        refine tr_iload dX8_copy_120 rfl ?_
        refine tr_iload dX8_copy_122 rfl ?_
        -- at 124: .if_icmp .ge 31
        refine tr_geN (tgt := 155) dX8_copy_124 (by decide) (by omega) (by omega) (fun h1 => ?_) (fun h1 => ?_)
        · omega
        · refine tr_aload_n dX8_copy_127 rfl ?_
          refine tr_getR dX8_copy_128 fg_RX8_13 (by first | assumption | decide) (by first | assumption | rfl) rfl (by omega) ?_
          refine tr_bipush (v := nI 40) dX8_copy_131 (by decide) ?_
          refine tr_iload_n dX8_copy_133 rfl ?_
          first | with_reducible refine tr_imulN dX8_copy_134 ?_ | refine tr_imul dX8_copy_134 ?_
          refine tr_iload dX8_copy_135 rfl ?_
          first | with_reducible refine tr_iaddN dX8_copy_137 ?_ | refine tr_iadd dX8_copy_137 ?_
          refine tr_iload dX8_copy_138 rfl ?_
          first | with_reducible refine tr_iaddN dX8_copy_140 ?_ | refine tr_iadd dX8_copy_140 ?_
          refine tr_aload_n dX8_copy_141 rfl ?_
          refine tr_getR dX8_copy_142 fg_RX8_16 (by first | assumption | decide) (by first | assumption | rfl) rfl (by omega) ?_
          refine tr_iload dX8_copy_145 rfl ?_
          refine tr_iald dX8_copy_147 (by first | assumption | decide) (by first | assumption | rfl) rfl (by omega) (by omega) (by first | assumption | rfl) ?_
          refine tr_iast dX8_copy_148 (by first | assumption | decide) (by first | assumption | rfl) rfl (by omega) (by omega) ?_
          first | with_reducible refine tr_iincN_6 dX8_copy_149 (by decide) rfl ?_ | refine tr_iinc_6 dX8_copy_149 (by decide) rfl ?_
          refine tr_goto (tgt := 120) dX8_copy_152 (by decide) ?_
          -- at 120: .iload 6
          refine ih _ ⟨u1.put _ (Or.inr rfl), by rw [sI_ne _ _ (by omega)]; exact u2, fun i hi => ?_, fun p hp hpb i hi => ?_⟩
          · rw [sI_same]
            by_cases e : i = p2 + k
            · subst e; rw [Nat.add_assoc, pk_us, pk_cpy_in (by omega) (by omega), Nat.add_sub_cancel_left]
            · rw [pk_un (by omega), u3 i hi]
              by_cases e2 : p2 ≤ i ∧ i < p2 + k
              · rw [pk_cpy_in e2.1 e2.2, pk_cpy_in e2.1 (by omega)]
              · rw [pk_cpy_out (by omega), pk_cpy_out (by omega)]
          · rw [sI_same, pk_un (by omega)]; exact u4 p hp hpb i hi
      · obtain ⟨u1, u2, u3, u4⟩ := hP
        refine tr_iload dX8_copy_120 rfl ?_
        refine tr_iload dX8_copy_122 rfl ?_
        -- at 124: .if_icmp .ge 31
        refine tr_geN (tgt := 155) dX8_copy_124 (by decide) (by omega) (by omega) (fun h1 => ?_) (fun h1 => ?_)
        · refine tr_iconst (v := nI 1) dX8_copy_155 (by decide) ?_
          -- at 156: .ireturn
          refine tr_iret dX8_copy_156 (by first | exact trivial | rfl) ⟨rfl, h0.row u1 hb ⟨by rw [u2]; exact hXb.1, k2, u3⟩ (fun p hp hpb => ⟨by rw [u2], u4 p hp hpb⟩), hf0.trans (u1.fq (fun b hb => by omega))⟩
        · omega
    · omega
theorem r_copy (h : MI μ σ) : cp X (d + 3) kX8_copy [.ref 99, .int r, .int x, .int y, .int z, .int w] μ (PM μ (S_copy σ r x y z w)) := by
  refine cp_of ok_X8_copy (L := [.ref 99, .int r, .int x, .int y, .int z, .int w, .float 0]) rfl ?_
  refine tr_iload_n dX8_copy_0 rfl ?_
  -- at 1: .invokestatic 77
  refine tr_Si (As := [_]) dX8_copy_1 fm_RX8_77 rfl rfl (Nat.le_of_ble_eq_true rfl) (r_isRow) (fun v μ1 ⟨e1, e2⟩ => ?_)
  subst μ1; subst v
  cases hr : ixV r 6 with
  | none =>
    refine tr_ifb0 (tgt := 14) dX8_copy_4 (by decide) (fun h1 => ?_) (fun h1 => ?_)
    · refine tr_iconst (v := -1) dX8_copy_14 (by decide) ?_
      exact tr_iret dX8_copy_15 (by first | exact trivial | rfl) (pm_same h (by simp only [S_copy, hr]))
    · cases h1
  | some a =>
    obtain ⟨rfl, ha⟩ := ixV_some (by omega) hr
    refine tr_ifb0 (tgt := 14) dX8_copy_4 (by decide) (fun h1 => ?_) (fun h1 => ?_)
    · cases h1
    · refine tr_iload_n dX8_copy_7 rfl ?_
      -- at 8: .invokestatic 77
      refine tr_Si (As := [_]) dX8_copy_8 fm_RX8_77 rfl rfl (Nat.le_of_ble_eq_true rfl) (r_isRow) (fun v μ1 ⟨e1, e2⟩ => ?_)
      subst μ1; subst v
      cases hy : ixV y 6 with
      | none =>
        refine tr_ifb1 (tgt := 16) dX8_copy_11 (by decide) (fun h2 => ?_) (fun h2 => ?_)
        · cases h2
        · refine tr_iconst (v := -1) dX8_copy_14 (by decide) ?_
          exact tr_iret dX8_copy_15 (by first | exact trivial | rfl) (pm_same h (by simp only [S_copy, hr, hy]))
      | some b =>
        obtain ⟨rfl, hb⟩ := ixV_some (by omega) hy
        refine tr_ifb1 (tgt := 16) dX8_copy_11 (by decide) (fun h2 => ?_) (fun h2 => ?_)
        · refine tr_iload dX8_copy_16 rfl ?_
          -- at 18: .ifCond .ge 9
          refine tr_if_ge (tgt := 27) dX8_copy_18 (by decide) (fun h3 => ?_) (fun h3 => ?_)
          · obtain ⟨q, hq, rfl⟩ := nI_of (Int32.not_lt.mpr h3)
            have eS : S_copy σ (nI a) x (nI b) z (nI q) = match sR σ a, sR σ b with
                | some (n1, f1), some (n2, f2) => if (holdM n1 x (nI q) && holdM n2 z (nI q)) = true then (1, gR σ b (some (n2, va_cpy f1 f2 x.toNatClampNeg z.toNatClampNeg (nI q).toNatClampNeg))) else (-3, gF σ 2)
                | _, _ => (-3, gF σ 1) := by
              simp only [S_copy, hr, hy]
              rw [if_neg (nI_pos hq)]
              rfl
            rw [eS]
            have hXa := h.1 a ha
            have hXb := h.1 b hb
            have ra := hXa.sz
            have rb := hXb.sz
            refine tr_aload_n dX8_copy_27 rfl ?_
            refine tr_getR dX8_copy_28 fg_RX8_7 (by first | assumption | decide) (by first | assumption | rfl) rfl (by omega) ?_
            refine tr_iload_n dX8_copy_31 rfl ?_
            refine tr_iald dX8_copy_32 (by first | assumption | decide) (by first | assumption | rfl) rfl (by omega) (by omega) (by first | assumption | rfl) ?_
            -- at 33: .ifCond .lt 12
            cases hoa : sR σ a with
            | none =>
              refine tr_if_lt (tgt := 45) dX8_copy_33 (by decide) (fun h4 => ?_) (fun h4 => ?_)
              · refine tr_aload_n dX8_copy_45 rfl ?_
                refine tr_iconst (v := nI 1) dX8_copy_46 (by decide) ?_
                refine tr_Vi (As := [_]) dX8_copy_47 fm_RX8_81 rfl rfl (by first | assumption | decide) (by first | assumption | rfl) (Nat.le_of_ble_eq_true rfl) (r_finds (k := 1) (by omega) h) (fun v μ1 ⟨e1, e2, e3⟩ => ?_)
                exact tr_iret dX8_copy_50 (by first | exact trivial | rfl) (pm_e (rfl) e1 e2 e3)
              · exact absurd (Int32.not_lt.mp h4) (by decide)
            | some w1 =>
              obtain ⟨n1, f1⟩ := w1
              rw [hoa] at hXa
              have k1 := hXa.2.1
              refine tr_if_lt (tgt := 45) dX8_copy_33 (by decide) (fun h4 => ?_) (fun h4 => ?_)
              · exact absurd h4 (nI_pos (show n1 < 2 ^ 31 by omega))
              · refine tr_aload_n dX8_copy_36 rfl ?_
                refine tr_getR dX8_copy_37 fg_RX8_7 (by first | assumption | decide) (by first | assumption | rfl) rfl (by omega) ?_
                refine tr_iload_n dX8_copy_40 rfl ?_
                refine tr_iald dX8_copy_41 (by first | assumption | decide) (by first | assumption | rfl) rfl (by omega) (by omega) (by first | assumption | rfl) ?_
                -- at 42: .ifCond .ge 9
                cases hob : sR σ b with
                | none =>
                  refine tr_if_ge (tgt := 51) dX8_copy_42 (by decide) (fun h5 => ?_) (fun h5 => ?_)
                  · exact absurd h5 (by decide)
                  · refine tr_aload_n dX8_copy_45 rfl ?_
                    refine tr_iconst (v := nI 1) dX8_copy_46 (by decide) ?_
                    refine tr_Vi (As := [_]) dX8_copy_47 fm_RX8_81 rfl rfl (by first | assumption | decide) (by first | assumption | rfl) (Nat.le_of_ble_eq_true rfl) (r_finds (k := 1) (by omega) h) (fun v μ1 ⟨e1, e2, e3⟩ => ?_)
                    exact tr_iret dX8_copy_50 (by first | exact trivial | rfl) (pm_e (rfl) e1 e2 e3)
                | some w2 =>
                  obtain ⟨n2, f2⟩ := w2
                  rw [hob] at hXb
                  have k2 := hXb.2.1
                  dsimp only
                  refine tr_if_ge (tgt := 51) dX8_copy_42 (by decide) (fun h5 => ?_) (fun h5 => ?_)
                  · refine tr_aload_n dX8_copy_51 rfl ?_
                    refine tr_iload_n dX8_copy_52 rfl ?_
                    refine tr_iload_n dX8_copy_53 rfl ?_
                    refine tr_iload dX8_copy_54 rfl ?_
                    -- at 56: .invokevirtual 92
                    refine tr_Vi (As := [_, _, _]) dX8_copy_56 fm_RX8_92 rfl rfl (by first | assumption | decide) (by first | assumption | rfl) (Nat.le_of_ble_eq_true rfl) (r_lies hq ha hXa) (fun v μ1 ⟨e1, e2⟩ => ?_)
                    subst μ1; subst v
                    refine tr_ifb0 (tgt := 74) dX8_copy_59 (by decide) (fun h6 => ?_) (fun h6 => ?_)
                    · refine tr_aload_n dX8_copy_74 rfl ?_
                      refine tr_iconst (v := nI 2) dX8_copy_75 (by decide) ?_
                      refine tr_Vi (As := [_]) dX8_copy_76 fm_RX8_81 rfl rfl (by first | assumption | decide) (by first | assumption | rfl) (Nat.le_of_ble_eq_true rfl) (r_finds (k := 2) (by omega) h) (fun v μ1 ⟨e1, e2, e3⟩ => ?_)
                      exact tr_iret dX8_copy_79 (by first | exact trivial | rfl) (pm_e (by rw [h6]; rfl) e1 e2 e3)
                    · refine tr_aload_n dX8_copy_62 rfl ?_
                      refine tr_iload_n dX8_copy_63 rfl ?_
                      refine tr_iload dX8_copy_64 rfl ?_
                      refine tr_iload dX8_copy_66 rfl ?_
                      -- at 68: .invokevirtual 92
                      refine tr_Vi (As := [_, _, _]) dX8_copy_68 fm_RX8_92 rfl rfl (by first | assumption | decide) (by first | assumption | rfl) (Nat.le_of_ble_eq_true rfl) (r_lies hq hb hXb) (fun v μ1 ⟨e1, e2⟩ => ?_)
                      subst μ1; subst v
                      refine tr_ifb1 (tgt := 80) dX8_copy_71 (by decide) (fun h7 => ?_) (fun h7 => ?_)
                      · rw [h6, h7]
                        obtain ⟨p1, rfl, g1⟩ := hold_v k1 hq h6
                        obtain ⟨p2, rfl, g2⟩ := hold_v k2 hq h7
                        rw [nI_clamp (by omega), nI_clamp (by omega), nI_clamp (by omega)]
                        exact l_rcopy h ha hb hoa hob g1 g2
                      · refine tr_aload_n dX8_copy_74 rfl ?_
                        refine tr_iconst (v := nI 2) dX8_copy_75 (by decide) ?_
                        refine tr_Vi (As := [_]) dX8_copy_76 fm_RX8_81 rfl rfl (by first | assumption | decide) (by first | assumption | rfl) (Nat.le_of_ble_eq_true rfl) (r_finds (k := 2) (by omega) h) (fun v μ1 ⟨e1, e2, e3⟩ => ?_)
                        exact tr_iret dX8_copy_79 (by first | exact trivial | rfl) (pm_e (by rw [h6, h7]; rfl) e1 e2 e3)
                  · exact absurd (nI_pos' (show n2 < 2 ^ 31 by omega)) h5
          · refine tr_aload_n dX8_copy_21 rfl ?_
            refine tr_iconst (v := nI 5) dX8_copy_22 (by decide) ?_
            refine tr_Vi (As := [_]) dX8_copy_23 fm_RX8_81 rfl rfl (by first | assumption | decide) (by first | assumption | rfl) (Nat.le_of_ble_eq_true rfl) (r_finds (k := 5) (by omega) h) (fun v μ1 ⟨e1, e2, e3⟩ => ?_)
            exact tr_iret dX8_copy_26 (by first | exact trivial | rfl) (pm_e (by simp only [S_copy, hr, hy]; rw [if_pos (Int32.not_le.mp h3)]) e1 e2 e3)
        · cases h2
theorem r_mean (h : MI μ σ) : cp X (d + 3) kX8_mean [.ref 99, .int r] μ (PM μ (S_mean σ r)) := by
  refine cp_of ok_X8_mean (L := [.ref 99, .int r, .float 0, .float 0, .float 0]) rfl ?_
  refine tr_iload_n dX8_mean_0 rfl ?_
  -- at 1: .invokestatic 77
  refine tr_Si (As := [_]) dX8_mean_1 fm_RX8_77 rfl rfl (Nat.le_of_ble_eq_true rfl) (r_isRow) (fun v μ1 ⟨e1, e2⟩ => ?_)
  subst μ1; subst v
  cases hr : ixV r 6 with
  | none =>
    refine tr_ifb1 (tgt := 9) dX8_mean_4 (by decide) (fun h1 => ?_) (fun h1 => ?_)
    · cases h1
    · refine tr_iconst (v := -1) dX8_mean_7 (by decide) ?_
      exact tr_iret dX8_mean_8 (by first | exact trivial | rfl) (pm_same h (by rw [S_mean, hr]))
  | some j =>
    obtain ⟨rfl, hj⟩ := ixV_some (by omega) hr
    have hX := h.1 j hj
    have r0 := hX.sz
    refine tr_ifb1 (tgt := 9) dX8_mean_4 (by decide) (fun h1 => ?_) (fun h1 => ?_)
    · refine tr_aload_n dX8_mean_9 rfl ?_
      refine tr_getR dX8_mean_10 fg_RX8_7 (by first | assumption | decide) (by first | assumption | rfl) rfl (by omega) ?_
      refine tr_iload_n dX8_mean_13 rfl ?_
      refine tr_iald dX8_mean_14 (by first | assumption | decide) (by first | assumption | rfl) rfl (by omega) (by omega) (by first | assumption | rfl) ?_
      -- at 15: .ifCond .ge 9
      cases ho : sR σ j with
      | none =>
        refine tr_if_ge (tgt := 24) dX8_mean_15 (by decide) (fun h2 => ?_) (fun h2 => ?_)
        · exact absurd h2 (by decide)
        · refine tr_aload_n dX8_mean_18 rfl ?_
          refine tr_iconst (v := nI 1) dX8_mean_19 (by decide) ?_
          refine tr_Vi (As := [_]) dX8_mean_20 fm_RX8_81 rfl rfl (by first | assumption | decide) (by first | assumption | rfl) (Nat.le_of_ble_eq_true rfl) (r_finds (k := 1) (by omega) h) (fun v μ1 ⟨e1, e2, e3⟩ => ?_)
          exact tr_iret dX8_mean_23 (by first | exact trivial | rfl) (pm_e (by simp only [S_mean, hr, ho]) e1 e2 e3)
      | some w =>
        obtain ⟨n, f⟩ := w
        rw [ho] at hX
        have r1 := hX.1
        have r2 := hX.2.1
        refine tr_if_ge (tgt := 24) dX8_mean_15 (by decide) (fun h2 => ?_) (fun h2 => ?_)
        · refine tr_aload_n dX8_mean_24 rfl ?_
          refine tr_getR dX8_mean_25 fg_RX8_7 (by first | assumption | decide) (by first | assumption | rfl) rfl (by omega) ?_
          refine tr_iload_n dX8_mean_28 rfl ?_
          refine tr_iald dX8_mean_29 (by first | assumption | decide) (by first | assumption | rfl) rfl (by omega) (by omega) (by first | assumption | rfl) ?_
          -- at 30: .ifCond .ne 9
          refine tr_ifnN (tgt := 39) dX8_mean_30 (by decide) (by omega) (fun h3 => ?_) (fun h3 => ?_)
          · have e : S_mean σ (nI j) = (1, gA σ (smM f n / (nI n).toInt64).toInt32) := by
              simp only [S_mean, hr, ho]
              rw [if_neg h3]
            rw [e]
            refine tr_lconst (v := lN 0) dX8_mean_39 (by decide) ?_
            refine tr_lstore_n_2 dX8_mean_40 (by decide) rfl ?_
            refine tr_iconst (v := nI 0) dX8_mean_41 (by decide) ?_
            refine tr_istore_4 dX8_mean_42 (by decide) rfl ?_
            -- at 44: .iload 4
            refine tw_for (n := n) (Lf := fun k => [.ref 99, .int (nI j), .long (smM f k), .float 0, .int (nI k)]) (P := fun k μ1 => μ1 = μ) (fun k μ1 hk hP ih => ?_) (fun μ1 hP => ?_) 0 _ (by omega) rfl
            · subst hP
              have r3 := hX.2.2 k hk
              refine tr_iload dX8_mean_44 rfl ?_
              refine tr_aload_n dX8_mean_46 rfl ?_
              refine tr_getR dX8_mean_47 fg_RX8_7 (by first | assumption | decide) (by first | assumption | rfl) rfl (by omega) ?_
              refine tr_iload_n dX8_mean_50 rfl ?_
              refine tr_iald dX8_mean_51 (by first | assumption | decide) (by first | assumption | rfl) rfl (by omega) (by omega) (by first | assumption | rfl) ?_
              -- at 52: .if_icmp .ge 25
              refine tr_geN (tgt := 77) dX8_mean_52 (by decide) (by omega) (by omega) (fun h4 => ?_) (fun h4 => ?_)
              · omega
              · refine tr_lload_n dX8_mean_55 rfl ?_
                refine tr_aload_n dX8_mean_56 rfl ?_
                refine tr_getR dX8_mean_57 fg_RX8_13 (by first | assumption | decide) (by first | assumption | rfl) rfl (by omega) ?_
                refine tr_bipush (v := nI 40) dX8_mean_60 (by decide) ?_
                refine tr_iload_n dX8_mean_62 rfl ?_
                first | with_reducible refine tr_imulN dX8_mean_63 ?_ | refine tr_imul dX8_mean_63 ?_
                refine tr_iload dX8_mean_64 rfl ?_
                first | with_reducible refine tr_iaddN dX8_mean_66 ?_ | refine tr_iadd dX8_mean_66 ?_
                refine tr_iald dX8_mean_67 (by first | assumption | decide) (by first | assumption | rfl) rfl (by omega) (by omega) (by first | assumption | rfl) ?_
                refine tr_i2l dX8_mean_68 ?_
                refine tr_ladd dX8_mean_69 ?_
                refine tr_lstore_n_2 dX8_mean_70 (by decide) rfl ?_
                first | with_reducible refine tr_iincN_4 dX8_mean_71 (by decide) rfl ?_ | refine tr_iinc_4 dX8_mean_71 (by decide) rfl ?_
                refine tr_goto (tgt := 44) dX8_mean_74 (by decide) ?_
                -- at 44: .iload 4
                exact ih _ rfl
            · subst hP
              refine tr_iload dX8_mean_44 rfl ?_
              refine tr_aload_n dX8_mean_46 rfl ?_
              refine tr_getR dX8_mean_47 fg_RX8_7 (by first | assumption | decide) (by first | assumption | rfl) rfl (by omega) ?_
              refine tr_iload_n dX8_mean_50 rfl ?_
              refine tr_iald dX8_mean_51 (by first | assumption | decide) (by first | assumption | rfl) rfl (by omega) (by omega) (by first | assumption | rfl) ?_
              -- at 52: .if_icmp .ge 25
              refine tr_geN (tgt := 77) dX8_mean_52 (by decide) (by omega) (by omega) (fun h4 => ?_) (fun h4 => ?_)
              · refine tr_aload_n dX8_mean_77 rfl ?_
                refine tr_lload_n dX8_mean_78 rfl ?_
                refine tr_aload_n dX8_mean_79 rfl ?_
                refine tr_getR dX8_mean_80 fg_RX8_7 (by first | assumption | decide) (by first | assumption | rfl) rfl (by omega) ?_
                refine tr_iload_n dX8_mean_83 rfl ?_
                refine tr_iald dX8_mean_84 (by first | assumption | decide) (by first | assumption | rfl) rfl (by omega) (by omega) (by first | assumption | rfl) ?_
                refine tr_i2l dX8_mean_85 ?_
                -- at 86: .ldiv
                refine tr_ldiv dX8_mean_86 (fun q => h3 ((pk_lEQ (b := 0) (by omega) (by omega)).mp (by rw [← nI_l (by omega)]; exact q))) ?_
                refine tr_l2i dX8_mean_87 ?_
                -- at 88: .invokevirtual 89
                refine tr_Vi (As := [_]) dX8_mean_88 fm_RX8_89 rfl rfl (by first | assumption | decide) (by first | assumption | rfl) (Nat.le_of_ble_eq_true rfl) (r_tells h) (fun v μ1 ⟨e1, e2, e3⟩ => ?_)
                refine tr_iret dX8_mean_91 (by first | exact trivial | rfl) ⟨e1, e2, e3⟩
              · omega
          · refine tr_aload_n dX8_mean_33 rfl ?_
            refine tr_iconst (v := nI 4) dX8_mean_34 (by decide) ?_
            refine tr_Vi (As := [_]) dX8_mean_35 fm_RX8_81 rfl rfl (by first | assumption | decide) (by first | assumption | rfl) (Nat.le_of_ble_eq_true rfl) (r_finds (k := 4) (by omega) h) (fun v μ1 ⟨e1, e2, e3⟩ => ?_)
            exact tr_iret dX8_mean_38 (by first | exact trivial | rfl) (pm_e (by simp only [S_mean, hr, ho]; rw [if_pos h3]) e1 e2 e3)
        · exact absurd (nI_pos' (show n < 2 ^ 31 by omega)) h2
    · cases h1
theorem r_text (h : MI μ σ) : cp X (d + 3) kX8_text [.ref 99, .int r, .int x] μ (PM μ (S_text σ r x)) := by
  refine cp_of ok_X8_text (L := [.ref 99, .int r, .int x, .float 0]) rfl ?_
  refine tr_iload_n dX8_text_0 rfl ?_
  -- at 1: .invokestatic 95
  refine tr_Si (As := [_]) dX8_text_1 fm_RX8_95 rfl rfl (Nat.le_of_ble_eq_true rfl) (r_isText) (fun v μ1 ⟨e1, e2⟩ => ?_)
  subst μ1; subst v
  cases hr : ixV r 4 with
  | none =>
    refine tr_ifb0 (tgt := 13) dX8_text_4 (by decide) (fun h1 => ?_) (fun h1 => ?_)
    · refine tr_iconst (v := -1) dX8_text_13 (by decide) ?_
      exact tr_iret dX8_text_14 (by first | exact trivial | rfl) (pm_same h (by rw [S_text, hr]))
    · cases h1
  | some j =>
    obtain ⟨rfl, hj⟩ := ixV_some (by omega) hr
    refine tr_ifb0 (tgt := 13) dX8_text_4 (by decide) (fun h1 => ?_) (fun h1 => ?_)
    · cases h1
    · refine tr_iload_n dX8_text_7 rfl ?_
      refine tr_bipush (v := nI 60) dX8_text_8 (by decide) ?_
      -- at 10: .if_icmp .le 5
      refine tr_icmp_le (tgt := 15) dX8_text_10 (by decide) (fun h2 => ?_) (fun h2 => ?_)
      · refine tr_iload_n dX8_text_15 rfl ?_
        -- at 16: .ifCond .ge 9
        refine tr_if_ge (tgt := 25) dX8_text_16 (by decide) (fun h3 => ?_) (fun h3 => ?_)
        · obtain ⟨n, hq, rfl⟩ := nI_of (Int32.not_lt.mpr h3)
          have hn := (nI_leI hq (by omega)).mp h2
          have eS : S_text σ (nI j) (nI n) = (nI n, gT σ j (some (n, fun _ => 32))) := by
            rw [S_text, hr]
            dsimp only
            rw [if_neg (Int32.not_lt.mpr h2), if_neg (nI_pos hq), nI_clamp hq]
          rw [eS]
          refine tr_aload_n dX8_text_25 rfl ?_
          refine tr_getR dX8_text_26 fg_RX8_19 (by first | assumption | decide) (by first | assumption | rfl) rfl (by omega) ?_
          refine tr_iload_n dX8_text_29 rfl ?_
          refine tr_iload_n dX8_text_30 rfl ?_
          refine tr_iast dX8_text_31 (by first | assumption | decide) (by first | assumption | rfl) rfl (by omega) (by omega) ?_
          refine tr_iconst (v := nI 0) dX8_text_32 (by decide) ?_
          refine tr_istore_n_3 dX8_text_33 (by decide) rfl ?_
          -- at 34: .iload_n 3
          refine tw_for (n := 60) (Lf := fun k => [.ref 99, .int (nI j), .int (nI n), .int (nI k)]) (P := fun k μ1 => sP (fun b => b = 103 ∨ b = 104) μ μ1 ∧ μ1.1 103 = upd (μ.1 103) j (nI n) ∧ (∀ i, i < k → μ1.1 104 (60 * j + i) = 32) ∧ ∀ q, q < 4 → q ≠ j → ∀ i, i < 60 → μ1.1 104 (60 * q + i) = μ.1 104 (60 * q + i)) (fun k μ1 hk hP ih => ?_) (fun μ1 hP => ?_) 0 _ (by omega) ?_
          · obtain ⟨p1, p2, p3, p4⟩ := hP
            refine tr_iload_n dX8_text_34 rfl ?_
            refine tr_bipush (v := nI 60) dX8_text_35 (by decide) ?_
            -- at 37: .if_icmp .ge 22
            refine tr_geN (tgt := 59) dX8_text_37 (by decide) (by omega) (by omega) (fun h1 => ?_) (fun h1 => ?_)
            · omega
            · refine tr_aload_n dX8_text_40 rfl ?_
              refine tr_getR dX8_text_41 fg_RX8_22 (by first | assumption | decide) (by first | assumption | rfl) rfl (by omega) ?_
              refine tr_bipush (v := nI 60) dX8_text_44 (by decide) ?_
              refine tr_iload_n dX8_text_46 rfl ?_
              first | with_reducible refine tr_imulN dX8_text_47 ?_ | refine tr_imul dX8_text_47 ?_
              refine tr_iload_n dX8_text_48 rfl ?_
              first | with_reducible refine tr_iaddN dX8_text_49 ?_ | refine tr_iadd dX8_text_49 ?_
              refine tr_bipush (v := nI 32) dX8_text_50 (by decide) ?_
              refine tr_bast dX8_text_52 (by first | assumption | decide) (by first | assumption | rfl) rfl (by omega) (by omega) ?_
              first | with_reducible refine tr_iincN_3 dX8_text_53 (by decide) rfl ?_ | refine tr_iinc_3 dX8_text_53 (by decide) rfl ?_
              refine tr_goto (tgt := 34) dX8_text_56 (by decide) ?_
              -- at 34: .iload_n 3
              refine ih _ ⟨p1.put _ (Or.inr rfl), by rw [sI_ne _ _ (by omega)]; exact p2, fun i hi => ?_, fun q hq hqj i hi => ?_⟩
              · rw [sI_same]
                by_cases e : i = k
                · subst e; rw [pk_us]; decide
                · rw [pk_un (by omega)]; exact p3 i (by omega)
              · rw [sI_same, pk_un (by omega)]; exact p4 q hq hqj i hi
          · obtain ⟨p1, p2, p3, p4⟩ := hP
            refine tr_iload_n dX8_text_34 rfl ?_
            refine tr_bipush (v := nI 60) dX8_text_35 (by decide) ?_
            -- at 37: .if_icmp .ge 22
            refine tr_geN (tgt := 59) dX8_text_37 (by decide) (by omega) (by omega) (fun h1 => ?_) (fun h1 => ?_)
            · refine tr_iload_n dX8_text_59 rfl ?_
              -- at 60: .ireturn
              refine tr_iret dX8_text_60 (by first | exact trivial | rfl) ⟨rfl, h.text p1 hj ⟨by rw [p2, pk_us], hn, fun i hi => p3 i (by omega)⟩ (fun q hq hqj => ⟨by rw [p2, pk_un hqj], p4 q hq hqj⟩), p1.fq (fun b hb => by omega)⟩
            · omega
          · exact ⟨(sP.rf _ μ).put _ (Or.inl rfl), by rw [sI_same], fun i hi => by omega, fun q hq hqj i hi => by rw [sI_ne _ _ (by omega)]⟩
        · refine tr_aload_n dX8_text_19 rfl ?_
          refine tr_iconst (v := nI 5) dX8_text_20 (by decide) ?_
          refine tr_Vi (As := [_]) dX8_text_21 fm_RX8_81 rfl rfl (by first | assumption | decide) (by first | assumption | rfl) (Nat.le_of_ble_eq_true rfl) (r_finds (k := 5) (by omega) h) (fun v μ1 ⟨e1, e2, e3⟩ => ?_)
          exact tr_iret dX8_text_24 (by first | exact trivial | rfl) (pm_e (by rw [S_text, hr]; dsimp only; rw [if_neg (Int32.not_lt.mpr h2), if_pos (Int32.not_le.mp h3)]) e1 e2 e3)
      · refine tr_iconst (v := -1) dX8_text_13 (by decide) ?_
        exact tr_iret dX8_text_14 (by first | exact trivial | rfl) (pm_same h (by rw [S_text, hr]; dsimp only; rw [if_pos (Int32.not_le.mp h2)]))
theorem r_put (h : MI μ σ) : cp X (d + 3) kX8_put [.ref 99, .int r, .int x, .int y] μ (PM μ (S_put σ r x y)) := by
  refine cp_of ok_X8_put (L := [.ref 99, .int r, .int x, .int y, .float 0]) rfl ?_
  refine tr_iload_n dX8_put_0 rfl ?_
  -- at 1: .invokestatic 95
  refine tr_Si (As := [_]) dX8_put_1 fm_RX8_95 rfl rfl (Nat.le_of_ble_eq_true rfl) (r_isText) (fun v μ1 ⟨e1, e2⟩ => ?_)
  subst μ1; subst v
  cases hr : ixV r 4 with
  | none =>
    refine tr_ifb1 (tgt := 9) dX8_put_4 (by decide) (fun h1 => ?_) (fun h1 => ?_)
    · cases h1
    · refine tr_iconst (v := -1) dX8_put_7 (by decide) ?_
      exact tr_iret dX8_put_8 (by first | exact trivial | rfl) (pm_same h (by rw [S_put, hr]))
  | some j =>
    obtain ⟨rfl, hj⟩ := ixV_some (by omega) hr
    have hX := h.2.1 j hj
    have r0 := hX.sz
    refine tr_ifb1 (tgt := 9) dX8_put_4 (by decide) (fun h1 => ?_) (fun h1 => ?_)
    · refine tr_aload_n dX8_put_9 rfl ?_
      refine tr_getR dX8_put_10 fg_RX8_19 (by first | assumption | decide) (by first | assumption | rfl) rfl (by omega) ?_
      refine tr_iload_n dX8_put_13 rfl ?_
      refine tr_iald dX8_put_14 (by first | assumption | decide) (by first | assumption | rfl) rfl (by omega) (by omega) (by first | assumption | rfl) ?_
      -- at 15: .ifCond .ge 9
      cases ho : sT σ j with
      | none =>
        refine tr_if_ge (tgt := 24) dX8_put_15 (by decide) (fun h2 => ?_) (fun h2 => ?_)
        · exact absurd h2 (by decide)
        · refine tr_aload_n dX8_put_18 rfl ?_
          refine tr_iconst (v := nI 1) dX8_put_19 (by decide) ?_
          refine tr_Vi (As := [_]) dX8_put_20 fm_RX8_81 rfl rfl (by first | assumption | decide) (by first | assumption | rfl) (Nat.le_of_ble_eq_true rfl) (r_finds (k := 1) (by omega) h) (fun v μ1 ⟨e1, e2, e3⟩ => ?_)
          exact tr_iret dX8_put_23 (by first | exact trivial | rfl) (pm_e (by simp only [S_put, hr, ho]) e1 e2 e3)
      | some w =>
        obtain ⟨n, f⟩ := w
        rw [ho] at hX
        have r1 := hX.1
        have r2 := hX.2.1
        refine tr_if_ge (tgt := 24) dX8_put_15 (by decide) (fun h2 => ?_) (fun h2 => ?_)
        · refine tr_iload_n dX8_put_24 rfl ?_
          refine tr_iconst (v := nI 0) dX8_put_25 (by decide) ?_
          refine tr_aload_n dX8_put_26 rfl ?_
          refine tr_getR dX8_put_27 fg_RX8_19 (by first | assumption | decide) (by first | assumption | rfl) rfl (by omega) ?_
          refine tr_iload_n dX8_put_30 rfl ?_
          refine tr_iald dX8_put_31 (by first | assumption | decide) (by first | assumption | rfl) rfl (by omega) (by omega) (by first | assumption | rfl) ?_
          refine tr_iconst (v := nI 1) dX8_put_32 (by decide) ?_
          -- at 33: .isub
          refine tr_isub dX8_put_33 ?_
          refine tr_Si (As := [_, _, _]) dX8_put_34 fm_RX8_73 rfl rfl (Nat.le_of_ble_eq_true rfl) (r_in) (fun v μ1 ⟨e1, e2⟩ => ?_)
          subst μ1; subst v
          rw [in_ix1 x (by omega)]
          cases hx : ixV x n with
          | none =>
            refine tr_ifb1 (tgt := 46) dX8_put_37 (by decide) (fun h3 => ?_) (fun h3 => ?_)
            · cases h3
            · refine tr_aload_n dX8_put_40 rfl ?_
              refine tr_iconst (v := nI 2) dX8_put_41 (by decide) ?_
              refine tr_Vi (As := [_]) dX8_put_42 fm_RX8_81 rfl rfl (by first | assumption | decide) (by first | assumption | rfl) (Nat.le_of_ble_eq_true rfl) (r_finds (k := 2) (by omega) h) (fun v μ1 ⟨e1, e2, e3⟩ => ?_)
              exact tr_iret dX8_put_45 (by first | exact trivial | rfl) (pm_e (by simp only [S_put, hr, ho, hx]) e1 e2 e3)
          | some q =>
            obtain ⟨rfl, hq⟩ := ixV_some (by omega) hx
            have r3 := hX.2.2 q hq
            refine tr_ifb1 (tgt := 46) dX8_put_37 (by decide) (fun h3 => ?_) (fun h3 => ?_)
            · refine tr_aload_n dX8_put_46 rfl ?_
              refine tr_getR dX8_put_47 fg_RX8_22 (by first | assumption | decide) (by first | assumption | rfl) rfl (by omega) ?_
              refine tr_bipush (v := nI 60) dX8_put_50 (by decide) ?_
              refine tr_iload_n dX8_put_52 rfl ?_
              first | with_reducible refine tr_imulN dX8_put_53 ?_ | refine tr_imul dX8_put_53 ?_
              refine tr_iload_n dX8_put_54 rfl ?_
              first | with_reducible refine tr_iaddN dX8_put_55 ?_ | refine tr_iadd dX8_put_55 ?_
              refine tr_bald dX8_put_56 (by first | assumption | decide) (by first | assumption | rfl) rfl (by omega) (by omega) (by first | assumption | rfl) ?_
              refine tr_istore_4 dX8_put_57 (by decide) rfl ?_
              refine tr_aload_n dX8_put_59 rfl ?_
              refine tr_getR dX8_put_60 fg_RX8_22 (by first | assumption | decide) (by first | assumption | rfl) rfl (by omega) ?_
              refine tr_bipush (v := nI 60) dX8_put_63 (by decide) ?_
              refine tr_iload_n dX8_put_65 rfl ?_
              first | with_reducible refine tr_imulN dX8_put_66 ?_ | refine tr_imul dX8_put_66 ?_
              refine tr_iload_n dX8_put_67 rfl ?_
              first | with_reducible refine tr_iaddN dX8_put_68 ?_ | refine tr_iadd dX8_put_68 ?_
              refine tr_iload_n dX8_put_69 rfl ?_
              refine tr_i2b dX8_put_70 ?_
              refine tr_bast dX8_put_71 (by first | assumption | decide) (by first | assumption | rfl) rfl (by omega) (by omega) ?_
              -- at 72: .iload 4
              have hs := (sP.rf (fun b => b = 103 ∨ b = 104) μ).put (a := 104) (upd (μ.1 104) (60 * j + q) y.toInt8.toInt32.toInt8.toInt32) (Or.inr rfl)
              have h2 := h.text (o := some (n, upd f q y.toInt8.toInt32.toInt8.toInt32)) hs hj ⟨by rw [sI_ne _ _ (by omega)]; exact r1, r2, fun i hi => by
                rw [sI_same]
                by_cases e : i = q
                · subst e; rw [pk_us, pk_us]
                · rw [pk_un (by omega), pk_un e]; exact hX.2.2 i hi⟩ (fun p hp hpj => ⟨by rw [sI_ne _ _ (by omega)], fun i hi => by rw [sI_same, pk_un (by omega)]⟩)
              have hf := hs.fq (fun b hb => by omega)
              generalize sI μ 104 (upd (μ.1 104) (60 * j + q) y.toInt8.toInt32.toInt8.toInt32) = μ2 at h2 hf ⊢
              refine tr_iload dX8_put_72 rfl ?_
              refine tr_sipush (v := nI 1000) dX8_put_74 (by decide) ?_
              first | with_reducible refine tr_iaddN dX8_put_77 ?_ | refine tr_iadd dX8_put_77 ?_
              -- at 78: .ireturn
              refine tr_iret dX8_put_78 (by first | exact trivial | rfl) (pm_e (q := (f q + nI 1000, gT σ j (some (n, upd f q y.toInt8.toInt32.toInt8.toInt32)))) (by simp only [S_put, hr, ho, hx]) rfl h2 hf)
            · cases h3
        · exact absurd (nI_pos' (show n < 2 ^ 31 by omega)) h2
    · cases h1
end M3
