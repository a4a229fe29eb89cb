-- ===== the reference: what is told =====
theorem szR_lt {n : Nat} {f : Nat → Int32} : szR (some (n, f)) = nI n := rfl
section M14
variable {X : Nat × (Nat → Int32)} {d : Nat} {μ : am_M} {σ : SG} {a b i j n p : Nat} {c : NF} {r x y z w : Int32} {f : Nat → Int32}
theorem r_asked (h : MI μ σ) : cp X (d + 1) kX8_asked [.ref 99] μ (PM μ (sA σ, σ)) := by
  have h14 := h.2.2.2.2.2.2.1
  refine cp_of ok_X8_asked (L := [.ref 99]) rfl ?_
  refine tr_aload_n dX8_asked_0 rfl ?_
  refine tr_getI dX8_asked_1 fg_RX8_70 (by first | assumption | decide) (by first | assumption | rfl) rfl (by first | assumption | rfl) ?_
  -- at 4: .ireturn
  refine tr_iret dX8_asked_4 (by first | exact trivial | rfl) (pm_same h rfl)
theorem r_upper (h : MI μ σ) : cp X (d + 1) kX8_upper [.ref 99] μ (ql (fun v μ' => μ' = μ ∧ v = sU σ)) := by
  have h14 := h.2.2.2.2.2.2.2.2.2.1
  refine cp_of ok_X8_upper (L := [.ref 99]) rfl ?_
  refine tr_aload_n dX8_upper_0 rfl ?_
  refine tr_getJ dX8_upper_1 fg_RX8_197 (by first | assumption | decide) (by first | assumption | rfl) rfl (by first | assumption | rfl) ?_
  -- at 4: .lreturn
  refine tr_lret dX8_upper_4 (by first | exact trivial | rfl) ⟨rfl, rfl⟩
theorem r_lower (h : MI μ σ) : cp X (d + 1) kX8_lower [.ref 99] μ (ql (fun v μ' => μ' = μ ∧ v = sW σ)) := by
  have h14 := h.2.2.2.2.2.2.2.2.2.2
  refine cp_of ok_X8_lower (L := [.ref 99]) rfl ?_
  refine tr_aload_n dX8_lower_0 rfl ?_
  refine tr_getJ dX8_lower_1 fg_RX8_50 (by first | assumption | decide) (by first | assumption | rfl) rfl (by first | assumption | rfl) ?_
  -- at 4: .lreturn
  refine tr_lret dX8_lower_4 (by first | exact trivial | rfl) ⟨rfl, rfl⟩
theorem r_finding (h : MI μ σ) : cp X (d + 1) kX8_finding [.ref 99] μ (PM μ (sF σ, σ)) := by
  have h14 := h.2.2.2.2.2.2.2.1
  refine cp_of ok_X8_finding (L := [.ref 99]) rfl ?_
  refine tr_aload_n dX8_finding_0 rfl ?_
  refine tr_getI dX8_finding_1 fg_RX8_66 (by first | assumption | decide) (by first | assumption | rfl) rfl (by first | assumption | rfl) ?_
  -- at 4: .ireturn
  refine tr_iret dX8_finding_4 (by first | exact trivial | rfl) (pm_same h rfl)
theorem r_findings (h : MI μ σ) : cp X (d + 2) kX8_findings [.ref 99, .int x] μ (PM μ (S_findings σ x)) := by
  have h9 := h.2.2.2.2.2.2.2.2.1
  refine cp_of ok_X8_findings (L := [.ref 99, .int x]) rfl ?_
  refine tr_iload_n dX8_findings_0 rfl ?_
  refine tr_iconst (v := nI 1) dX8_findings_1 (by decide) ?_
  refine tr_iconst (v := nI 5) dX8_findings_2 (by decide) ?_
  -- at 3: .invokestatic 73
  refine tr_Si (As := [_, _, _]) dX8_findings_3 fm_RX8_73 rfl rfl (Nat.le_of_ble_eq_true rfl) (r_in) (fun v μ1 ⟨e1, e2⟩ => ?_)
  subst μ1; subst v
  refine tr_ifb0 (tgt := 18) dX8_findings_6 (by decide) (fun h1 => ?_) (fun h1 => ?_)
  · have h1' := of_decide_eq_false h1
    refine tr_iconst (v := -1) dX8_findings_18 (by decide) ?_
    exact tr_iret dX8_findings_19 (by first | exact trivial | rfl) (pm_same h (by rw [S_findings, if_neg (show ¬ (1 ≤ x ∧ x ≤ 5) from h1')]))
  · have h1' := of_decide_eq_true h1
    have eS : S_findings σ x = (sC σ x.toNatClampNeg, σ) := by rw [S_findings, if_pos (show 1 ≤ x ∧ x ≤ 5 from h1')]
    rw [eS]
    obtain ⟨k, hk, rfl⟩ := nI_of (x := x) (Int32.not_lt.mpr (Int32.le_trans (by decide) h1'.1))
    have hk5 : k ≤ 5 := (nI_leI (b := 5) hk (by omega)).mp h1'.2
    rw [nI_clamp hk]
    have k9 := h9 k (by omega)
    refine tr_aload_n dX8_findings_9 rfl ?_
    refine tr_getR dX8_findings_10 fg_RX8_54 (by first | assumption | decide) (by first | assumption | rfl) rfl (by omega) ?_
    refine tr_iload_n dX8_findings_13 rfl ?_
    refine tr_iald dX8_findings_14 (by first | assumption | decide) (by first | assumption | rfl) rfl (by omega) (by omega) (by first | assumption | rfl) ?_
    refine tr_goto (tgt := 19) dX8_findings_15 (by decide) ?_
    -- at 19: .ireturn
    refine tr_iret dX8_findings_19 (by first | exact trivial | rfl) (pm_same h rfl)
theorem r_ofKind {o : Nat} (ho : o < 6) (hr : MR μ 105 c) (hw : wfc c) : cp X (d + 2) kX8_ofKind [.ref 99, .int (nI o)] μ (qi (fun v μ' => μ' = μ ∧ v = nI (cntM c o (c 18)))) := by
  have h7 := hw.1
  have k18 := hr 18 (by omega)
  refine cp_of ok_X8_ofKind (L := [.ref 99, .int (nI o), .float 0, .float 0]) rfl ?_
  refine tr_iconst (v := nI 0) dX8_ofKind_0 (by decide) ?_
  refine tr_istore_n_2 dX8_ofKind_1 (by decide) (by first | rfl | assumption) ?_
  refine tr_iconst (v := nI 0) dX8_ofKind_2 (by decide) ?_
  refine tr_istore_n_3 dX8_ofKind_3 (by decide) (by first | rfl | assumption) ?_
  -- at 4: .iload_n 3
  refine tw_for (n := c 18) (Lf := fun k => [.ref 99, .int (nI o), .int (nI (cntM c o k)), .int (nI k)]) (P := fun k μ1 => μ1 = μ) (fun k μ1 hk hP ih => ?_) (fun μ1 hP => ?_) 0 _ (by omega) rfl
  · subst hP
    have ih' := ih μ1 rfl
    rw [show cntM c o (k + 1) = cntM c o k + bN (isM (c (19 + k)) o) from rfl] at ih'
    have k19 := hr (19 + k) (by omega)
    obtain ⟨w4, w11, w19, w26⟩ := hw.2.2.2 k (by omega)
    refine tr_iload_n dX8_ofKind_4 rfl ?_
    refine tr_aload_n dX8_ofKind_5 rfl ?_
    refine tr_getR dX8_ofKind_6 fg_RX8_26 (by first | assumption | decide) (by first | assumption | rfl) rfl (by omega) ?_
    refine tr_bipush (v := nI 18) dX8_ofKind_9 (by decide) ?_
    refine tr_iald dX8_ofKind_11 (by first | assumption | decide) (by first | assumption | rfl) rfl (by omega) (by omega) (by first | assumption | rfl) ?_
    -- at 12: .if_icmp .ge 33
    refine tr_geN (tgt := 45) dX8_ofKind_12 (by decide) (by omega) (by omega) (fun h1 => ?_) (fun h1 => ?_)
    · omega
    · refine tr_iload_n dX8_ofKind_15 rfl ?_
      refine tr_aload_n dX8_ofKind_16 rfl ?_
      refine tr_getR dX8_ofKind_17 fg_RX8_26 (by first | assumption | decide) (by first | assumption | rfl) rfl (by omega) ?_
      refine tr_bipush (v := nI 19) dX8_ofKind_20 (by decide) ?_
      refine tr_iload_n dX8_ofKind_22 rfl ?_
      first | with_reducible refine tr_iaddN dX8_ofKind_23 ?_ | refine tr_iadd dX8_ofKind_23 ?_
      refine tr_iald dX8_ofKind_24 (by first | assumption | decide) (by first | assumption | rfl) rfl (by omega) (by omega) (by first | assumption | rfl) ?_
      refine tr_iload_n dX8_ofKind_25 rfl ?_
      -- at 26: .invokestatic 141
      refine tr_Si (As := [_, _]) dX8_ofKind_26 fm_RX8_141 rfl rfl (Nat.le_of_ble_eq_true rfl) (r_is w19 ho) (fun v μ2 ⟨e1, e2⟩ => ?_)
      subst μ2; subst v
      refine tr_ifb0 (tgt := 36) dX8_ofKind_29 (by decide) (fun h2 => ?_) (fun h2 => ?_)
      · rw [h2] at ih'
        refine tr_iconst (v := nI 0) dX8_ofKind_36 (by decide) ?_
        first | with_reducible refine tr_iaddN dX8_ofKind_37 ?_ | refine tr_iadd dX8_ofKind_37 ?_
        refine tr_istore_n_2 dX8_ofKind_38 (by decide) (by first | rfl | assumption) ?_
        first | with_reducible refine tr_iincN_3 dX8_ofKind_39 (by decide) rfl ?_ | with_reducible refine tr_iincN_3 dX8_ofKind_39 (by decide) (by assumption) ?_ | refine tr_iinc_3 dX8_ofKind_39 (by decide) (by first | rfl | assumption) ?_
        refine tr_goto (tgt := 4) dX8_ofKind_42 (by decide) ?_
        -- at 4: .iload_n 3
        exact ih'
      · rw [h2] at ih'
        refine tr_iconst (v := nI 1) dX8_ofKind_32 (by decide) ?_
        refine tr_goto (tgt := 37) dX8_ofKind_33 (by decide) ?_
        first | with_reducible refine tr_iaddN dX8_ofKind_37 ?_ | refine tr_iadd dX8_ofKind_37 ?_
        refine tr_istore_n_2 dX8_ofKind_38 (by decide) (by first | rfl | assumption) ?_
        first | with_reducible refine tr_iincN_3 dX8_ofKind_39 (by decide) rfl ?_ | with_reducible refine tr_iincN_3 dX8_ofKind_39 (by decide) (by assumption) ?_ | refine tr_iinc_3 dX8_ofKind_39 (by decide) (by first | rfl | assumption) ?_
        refine tr_goto (tgt := 4) dX8_ofKind_42 (by decide) ?_
        -- at 4: .iload_n 3
        exact ih'
  · subst hP
    refine tr_iload_n dX8_ofKind_4 rfl ?_
    refine tr_aload_n dX8_ofKind_5 rfl ?_
    refine tr_getR dX8_ofKind_6 fg_RX8_26 (by first | assumption | decide) (by first | assumption | rfl) rfl (by omega) ?_
    refine tr_bipush (v := nI 18) dX8_ofKind_9 (by decide) ?_
    refine tr_iald dX8_ofKind_11 (by first | assumption | decide) (by first | assumption | rfl) rfl (by omega) (by omega) (by first | assumption | rfl) ?_
    -- at 12: .if_icmp .ge 33
    refine tr_geN (tgt := 45) dX8_ofKind_12 (by decide) (by omega) (by omega) (fun h1 => ?_) (fun h1 => ?_)
    · refine tr_iload_n dX8_ofKind_45 rfl ?_
      -- at 46: .ireturn
      refine tr_iret dX8_ofKind_46 (by first | exact trivial | rfl) ⟨rfl, rfl⟩
    · omega
theorem l_cnt8 (h : MI μ σ) : tw X (d + 2) kX8_count (qi (fun v μ' => μ' = μ ∧ v = nI (thM (fun r => noneR (sR σ r)) 6))) 125 [.ref 99, .int w, .int (nI 0), .float 0] [] μ := by
  refine tr_iconst (v := nI 0) dX8_count_125 (by decide) ?_
  refine tr_istore_n_3 dX8_count_126 (by decide) (by first | rfl | assumption) ?_
  -- at 127: .iload_n 3
  refine tw_for (n := 6) (Lf := fun k => [.ref 99, .int w, .int (nI (thM (fun r => noneR (sR σ r)) k)), .int (nI k)]) (P := fun k μ1 => μ1 = μ) (fun k μ1 hk hP ih => ?_) (fun μ1 hP => ?_) 0 _ (by omega) rfl
  · subst hP
    have ih' := ih μ1 rfl
    rw [show thM (fun r => noneR (sR σ r)) (k + 1) = thM (fun r => noneR (sR σ r)) k + bN (!noneR (sR σ k)) from rfl] at ih'
    have hX := h.1 k hk
    have r0 := hX.sz
    refine tr_iload_n dX8_count_127 rfl ?_
    refine tr_bipush (v := nI 6) dX8_count_128 (by decide) ?_
    -- at 130: .if_icmp .ge 26
    refine tr_geN (tgt := 156) dX8_count_130 (by decide) (by omega) (by omega) (fun h1 => ?_) (fun h1 => ?_)
    · omega
    · refine tr_iload_n dX8_count_133 rfl ?_
      refine tr_aload_n dX8_count_134 rfl ?_
      refine tr_getR dX8_count_135 fg_RX8_7 (by first | assumption | decide) (by first | assumption | rfl) rfl (by omega) ?_
      refine tr_iload_n dX8_count_138 rfl ?_
      refine tr_iald dX8_count_139 (by first | assumption | decide) (by first | assumption | rfl) rfl (by omega) (by omega) (by first | assumption | rfl) ?_
      -- at 140: .ifCond .ge 7
      cases ho : sR σ k with
      | none =>
        rw [ho] at ih'
        refine tr_if_ge (tgt := 147) dX8_count_140 (by decide) (fun h2 => ?_) (fun h2 => ?_)
        · exact absurd h2 (by decide)
        · refine tr_iconst (v := nI 0) dX8_count_143 (by decide) ?_
          refine tr_goto (tgt := 148) dX8_count_144 (by decide) ?_
          first | with_reducible refine tr_iaddN dX8_count_148 ?_ | refine tr_iadd dX8_count_148 ?_
          refine tr_istore_n_2 dX8_count_149 (by decide) (by first | rfl | assumption) ?_
          first | with_reducible refine tr_iincN_3 dX8_count_150 (by decide) rfl ?_ | with_reducible refine tr_iincN_3 dX8_count_150 (by decide) (by assumption) ?_ | refine tr_iinc_3 dX8_count_150 (by decide) (by first | rfl | assumption) ?_
          refine tr_goto (tgt := 127) dX8_count_153 (by decide) ?_
          -- at 127: .iload_n 3
          exact ih'
      | some q =>
        obtain ⟨n, f⟩ := q
        rw [ho] at ih' hX
        have r2 := hX.2.1
        refine tr_if_ge (tgt := 147) dX8_count_140 (by decide) (fun h2 => ?_) (fun h2 => ?_)
        · refine tr_iconst (v := nI 1) dX8_count_147 (by decide) ?_
          first | with_reducible refine tr_iaddN dX8_count_148 ?_ | refine tr_iadd dX8_count_148 ?_
          refine tr_istore_n_2 dX8_count_149 (by decide) (by first | rfl | assumption) ?_
          first | with_reducible refine tr_iincN_3 dX8_count_150 (by decide) rfl ?_ | with_reducible refine tr_iincN_3 dX8_count_150 (by decide) (by assumption) ?_ | refine tr_iinc_3 dX8_count_150 (by decide) (by first | rfl | assumption) ?_
          refine tr_goto (tgt := 127) dX8_count_153 (by decide) ?_
          -- at 127: .iload_n 3
          exact ih'
        · exact absurd (nI_pos' (show n < 2 ^ 31 by omega)) h2
  · subst hP
    refine tr_iload_n dX8_count_127 rfl ?_
    refine tr_bipush (v := nI 6) dX8_count_128 (by decide) ?_
    -- at 130: .if_icmp .ge 26
    refine tr_geN (tgt := 156) dX8_count_130 (by decide) (by omega) (by omega) (fun h1 => ?_) (fun h1 => ?_)
    · refine tr_iload_n dX8_count_156 rfl ?_
      -- at 157: .ireturn
      refine tr_iret dX8_count_157 (by first | exact trivial | rfl) ⟨rfl, rfl⟩
    · omega
theorem l_cnt9 (h : MI μ σ) : tw X (d + 2) kX8_count (qi (fun v μ' => μ' = μ ∧ v = nI (thM (fun t => noneR (sT σ t)) 4))) 158 [.ref 99, .int w, .int (nI 0), .float 0] [] μ := by
  refine tr_iconst (v := nI 0) dX8_count_158 (by decide) ?_
  refine tr_istore_n_3 dX8_count_159 (by decide) (by first | rfl | assumption) ?_
  -- at 160: .iload_n 3
  refine tw_for (n := 4) (Lf := fun k => [.ref 99, .int w, .int (nI (thM (fun r => noneR (sT σ r)) k)), .int (nI k)]) (P := fun k μ1 => μ1 = μ) (fun k μ1 hk hP ih => ?_) (fun μ1 hP => ?_) 0 _ (by omega) rfl
  · subst hP
    have ih' := ih μ1 rfl
    rw [show thM (fun r => noneR (sT σ r)) (k + 1) = thM (fun r => noneR (sT σ r)) k + bN (!noneR (sT σ k)) from rfl] at ih'
    have hX := h.2.1 k hk
    have r0 := hX.sz
    refine tr_iload_n dX8_count_160 rfl ?_
    refine tr_iconst (v := nI 4) dX8_count_161 (by decide) ?_
    -- at 162: .if_icmp .ge 26
    refine tr_geN (tgt := 188) dX8_count_162 (by decide) (by omega) (by omega) (fun h1 => ?_) (fun h1 => ?_)
    · omega
    · refine tr_iload_n dX8_count_165 rfl ?_
      refine tr_aload_n dX8_count_166 rfl ?_
      refine tr_getR dX8_count_167 fg_RX8_19 (by first | assumption | decide) (by first | assumption | rfl) rfl (by omega) ?_
      refine tr_iload_n dX8_count_170 rfl ?_
      refine tr_iald dX8_count_171 (by first | assumption | decide) (by first | assumption | rfl) rfl (by omega) (by omega) (by first | assumption | rfl) ?_
      -- at 172: .ifCond .ge 7
      cases ho : sT σ k with
      | none =>
        rw [ho] at ih'
        refine tr_if_ge (tgt := 179) dX8_count_172 (by decide) (fun h2 => ?_) (fun h2 => ?_)
        · exact absurd h2 (by decide)
        · refine tr_iconst (v := nI 0) dX8_count_175 (by decide) ?_
          refine tr_goto (tgt := 180) dX8_count_176 (by decide) ?_
          first | with_reducible refine tr_iaddN dX8_count_180 ?_ | refine tr_iadd dX8_count_180 ?_
          refine tr_istore_n_2 dX8_count_181 (by decide) (by first | rfl | assumption) ?_
          first | with_reducible refine tr_iincN_3 dX8_count_182 (by decide) rfl ?_ | with_reducible refine tr_iincN_3 dX8_count_182 (by decide) (by assumption) ?_ | refine tr_iinc_3 dX8_count_182 (by decide) (by first | rfl | assumption) ?_
          refine tr_goto (tgt := 160) dX8_count_185 (by decide) ?_
          -- at 160: .iload_n 3
          exact ih'
      | some q =>
        obtain ⟨n, f⟩ := q
        rw [ho] at ih' hX
        have r2 := hX.2.1
        refine tr_if_ge (tgt := 179) dX8_count_172 (by decide) (fun h2 => ?_) (fun h2 => ?_)
        · refine tr_iconst (v := nI 1) dX8_count_179 (by decide) ?_
          first | with_reducible refine tr_iaddN dX8_count_180 ?_ | refine tr_iadd dX8_count_180 ?_
          refine tr_istore_n_2 dX8_count_181 (by decide) (by first | rfl | assumption) ?_
          first | with_reducible refine tr_iincN_3 dX8_count_182 (by decide) rfl ?_ | with_reducible refine tr_iincN_3 dX8_count_182 (by decide) (by assumption) ?_ | refine tr_iinc_3 dX8_count_182 (by decide) (by first | rfl | assumption) ?_
          refine tr_goto (tgt := 160) dX8_count_185 (by decide) ?_
          -- at 160: .iload_n 3
          exact ih'
        · exact absurd (nI_pos' (show n < 2 ^ 31 by omega)) h2
  · subst hP
    refine tr_iload_n dX8_count_160 rfl ?_
    refine tr_iconst (v := nI 4) dX8_count_161 (by decide) ?_
    -- at 162: .if_icmp .ge 26
    refine tr_geN (tgt := 188) dX8_count_162 (by decide) (by omega) (by omega) (fun h1 => ?_) (fun h1 => ?_)
    · refine tr_iload_n dX8_count_188 rfl ?_
      -- at 189: .ireturn
      refine tr_iret dX8_count_189 (by first | exact trivial | rfl) ⟨rfl, rfl⟩
    · omega
theorem l_cnt10 (h : MI μ σ) (hW : WI σ) : tw X (d + 2) kX8_count (qi (fun v μ' => μ' = μ ∧ v = nI (thM (fun k => noneK (sK σ k)) 3))) 190 [.ref 99, .int w, .int (nI 0), .float 0] [] μ := by
  refine tr_iconst (v := nI 0) dX8_count_190 (by decide) ?_
  refine tr_istore_n_3 dX8_count_191 (by decide) (by first | rfl | assumption) ?_
  -- at 192: .iload_n 3
  refine tw_for (n := 3) (Lf := fun k => [.ref 99, .int w, .int (nI (thM (fun r => noneK (sK σ r)) k)), .int (nI k)]) (P := fun k μ1 => μ1 = μ) (fun k μ1 hk hP ih => ?_) (fun μ1 hP => ?_) 0 _ (by omega) rfl
  · subst hP
    have ih' := ih μ1 rfl
    rw [show thM (fun r => noneK (sK σ r)) (k + 1) = thM (fun r => noneK (sK σ r)) k + bN (!noneK (sK σ k)) from rfl] at ih'
    have hX := (h.2.2.2.2.2.1 k hk).1
    refine tr_iload_n dX8_count_192 rfl ?_
    refine tr_aload_n dX8_count_193 rfl ?_
    refine tr_getR dX8_count_194 fg_RX8_47 (by first | assumption | decide) (by first | assumption | rfl) rfl (by omega) ?_
    refine tr_alen dX8_count_197 (by first | assumption | decide) (by first | assumption | rfl) (by decide) ?_
    -- at 198: .if_icmp .ge 26
    refine tr_geN (tgt := 224) dX8_count_198 (by decide) (by omega) (by omega) (fun h1 => ?_) (fun h1 => ?_)
    · omega
    · refine tr_iload_n dX8_count_201 rfl ?_
      refine tr_aload_n dX8_count_202 rfl ?_
      refine tr_getR dX8_count_203 fg_RX8_47 (by first | assumption | decide) (by first | assumption | rfl) rfl (by omega) ?_
      refine tr_iload_n dX8_count_206 rfl ?_
      refine tr_iald dX8_count_207 (by first | assumption | decide) (by first | assumption | rfl) rfl (by omega) (by omega) (by first | assumption | rfl) ?_
      -- at 208: .ifCond .ge 7
      cases ho : sK σ k with
      | none =>
        rw [ho] at ih'
        refine tr_if_ge (tgt := 215) dX8_count_208 (by decide) (fun h2 => ?_) (fun h2 => ?_)
        · exact absurd h2 (by decide)
        · refine tr_iconst (v := nI 0) dX8_count_211 (by decide) ?_
          refine tr_goto (tgt := 216) dX8_count_212 (by decide) ?_
          first | with_reducible refine tr_iaddN dX8_count_216 ?_ | refine tr_iadd dX8_count_216 ?_
          refine tr_istore_n_2 dX8_count_217 (by decide) (by first | rfl | assumption) ?_
          first | with_reducible refine tr_iincN_3 dX8_count_218 (by decide) rfl ?_ | with_reducible refine tr_iincN_3 dX8_count_218 (by decide) (by assumption) ?_ | refine tr_iinc_3 dX8_count_218 (by decide) (by first | rfl | assumption) ?_
          refine tr_goto (tgt := 192) dX8_count_221 (by decide) ?_
          -- at 192: .iload_n 3
          exact ih'
      | some l =>
        rw [ho] at ih'
        have r2 := (hW.2.2.2.1 k l ho).1
        refine tr_if_ge (tgt := 215) dX8_count_208 (by decide) (fun h2 => ?_) (fun h2 => ?_)
        · refine tr_iconst (v := nI 1) dX8_count_215 (by decide) ?_
          first | with_reducible refine tr_iaddN dX8_count_216 ?_ | refine tr_iadd dX8_count_216 ?_
          refine tr_istore_n_2 dX8_count_217 (by decide) (by first | rfl | assumption) ?_
          first | with_reducible refine tr_iincN_3 dX8_count_218 (by decide) rfl ?_ | with_reducible refine tr_iincN_3 dX8_count_218 (by decide) (by assumption) ?_ | refine tr_iinc_3 dX8_count_218 (by decide) (by first | rfl | assumption) ?_
          refine tr_goto (tgt := 192) dX8_count_221 (by decide) ?_
          -- at 192: .iload_n 3
          exact ih'
        · exact absurd (nI_pos' (show l.length < 2 ^ 31 by omega)) h2
  · subst hP
    refine tr_iload_n dX8_count_192 rfl ?_
    refine tr_aload_n dX8_count_193 rfl ?_
    refine tr_getR dX8_count_194 fg_RX8_47 (by first | assumption | decide) (by first | assumption | rfl) rfl (by omega) ?_
    refine tr_alen dX8_count_197 (by first | assumption | decide) (by first | assumption | rfl) (by decide) ?_
    -- at 198: .if_icmp .ge 26
    refine tr_geN (tgt := 224) dX8_count_198 (by decide) (by omega) (by omega) (fun h1 => ?_) (fun h1 => ?_)
    · refine tr_iload_n dX8_count_224 rfl ?_
      -- at 225: .ireturn
      refine tr_iret dX8_count_225 (by first | exact trivial | rfl) ⟨rfl, rfl⟩
    · omega
theorem r_cnt {q : Nat} (hq : q < 13) (h : MI μ σ) (hW : WI σ) : cp X (d + 3) kX8_count [.ref 99, .int (nI q)] μ (qi (fun v μ' => μ' = μ ∧ v = cntV σ q)) := by
  have hw := hW.now
  have h7 := hw.1
  have hm := h.2.2.1
  have h10 := h.2.2.2.1
  have k18 := hm 18 (by omega)
  have k0 := hm 0 (by omega)
  have k1 := hm 1 (by omega)
  have k2 := hm 2 (by omega)
  have k3 := hm 3 (by omega)
  refine cp_of ok_X8_count (L := [.ref 99, .int (nI q), .float 0, .float 0]) rfl ?_
  refine tr_iconst (v := nI 0) dX8_count_0 (by decide) ?_
  refine tr_istore_n_2 dX8_count_1 (by decide) (by first | rfl | assumption) ?_
  refine tr_iload_n dX8_count_2 rfl ?_
  -- at 3: .tableswitch 235 0 12 #[65, 73, 80, 85, 93, 100, 107, 115, 1
  have hk : q = 0 ∨ q = 1 ∨ q = 2 ∨ q = 3 ∨ q = 4 ∨ q = 5 ∨ q = 6 ∨ q = 7 ∨ q = 8 ∨ q = 9 ∨ q = 10 ∨ q = 11 ∨ q = 12 := by omega
  rcases hk with rfl | rfl | rfl | rfl | rfl | rfl | rfl | rfl | rfl | rfl | rfl | rfl | rfl
  · refine tr_tableIn (off := 65) (tgt := 68) dX8_count_3 (by decide) (by decide) (by decide) (by decide) ?_
    refine tr_aload_n dX8_count_68 rfl ?_
    refine tr_getR dX8_count_69 fg_RX8_26 (by first | assumption | decide) (by first | assumption | rfl) rfl (by omega) ?_
    refine tr_bipush (v := nI 18) dX8_count_72 (by decide) ?_
    refine tr_iald dX8_count_74 (by first | assumption | decide) (by first | assumption | rfl) rfl (by omega) (by omega) (by first | assumption | rfl) ?_
    -- at 75: .ireturn
    refine tr_iret dX8_count_75 (by first | exact trivial | rfl) ⟨rfl, rfl⟩
  · refine tr_tableIn (off := 73) (tgt := 76) dX8_count_3 (by decide) (by decide) (by decide) (by decide) ?_
    refine tr_aload_n dX8_count_76 rfl ?_
    refine tr_getR dX8_count_77 fg_RX8_26 (by first | assumption | decide) (by first | assumption | rfl) rfl (by omega) ?_
    refine tr_iconst (v := nI 1) dX8_count_80 (by decide) ?_
    refine tr_iald dX8_count_81 (by first | assumption | decide) (by first | assumption | rfl) rfl (by omega) (by omega) (by first | assumption | rfl) ?_
    -- at 82: .ireturn
    refine tr_iret dX8_count_82 (by first | exact trivial | rfl) ⟨rfl, rfl⟩
  · refine tr_tableIn (off := 80) (tgt := 83) dX8_count_3 (by decide) (by decide) (by decide) (by decide) ?_
    refine tr_aload_n dX8_count_83 rfl ?_
    refine tr_getI dX8_count_84 fg_RX8_111 (by first | assumption | decide) (by first | assumption | rfl) rfl (by first | assumption | rfl) ?_
    -- at 87: .ireturn
    refine tr_iret dX8_count_87 (by first | exact trivial | rfl) ⟨rfl, rfl⟩
  · refine tr_tableIn (off := 85) (tgt := 88) dX8_count_3 (by decide) (by decide) (by decide) (by decide) ?_
    refine tr_aload_n dX8_count_88 rfl ?_
    refine tr_getR dX8_count_89 fg_RX8_26 (by first | assumption | decide) (by first | assumption | rfl) rfl (by omega) ?_
    -- at 92: .invokestatic 167
    refine tr_Si (As := [_]) dX8_count_92 fm_RX8_167 rfl rfl (Nat.le_of_ble_eq_true rfl) (r_shown isA_105 hm hw) (fun v μ1 ⟨e1, e2⟩ => ?_)
    refine tr_iret dX8_count_95 (by first | exact trivial | rfl) ⟨e1, e2⟩
  · refine tr_tableIn (off := 93) (tgt := 96) dX8_count_3 (by decide) (by decide) (by decide) (by decide) ?_
    refine tr_aload_n dX8_count_96 rfl ?_
    refine tr_getR dX8_count_97 fg_RX8_26 (by first | assumption | decide) (by first | assumption | rfl) rfl (by omega) ?_
    refine tr_iconst (v := nI 2) dX8_count_100 (by decide) ?_
    refine tr_iald dX8_count_101 (by first | assumption | decide) (by first | assumption | rfl) rfl (by omega) (by omega) (by first | assumption | rfl) ?_
    -- at 102: .ireturn
    refine tr_iret dX8_count_102 (by first | exact trivial | rfl) ⟨rfl, rfl⟩
  · refine tr_tableIn (off := 100) (tgt := 103) dX8_count_3 (by decide) (by decide) (by decide) (by decide) ?_
    refine tr_aload_n dX8_count_103 rfl ?_
    refine tr_getR dX8_count_104 fg_RX8_26 (by first | assumption | decide) (by first | assumption | rfl) rfl (by omega) ?_
    refine tr_iconst (v := nI 3) dX8_count_107 (by decide) ?_
    refine tr_iald dX8_count_108 (by first | assumption | decide) (by first | assumption | rfl) rfl (by omega) (by omega) (by first | assumption | rfl) ?_
    -- at 109: .ireturn
    refine tr_iret dX8_count_109 (by first | exact trivial | rfl) ⟨rfl, rfl⟩
  · refine tr_tableIn (off := 107) (tgt := 110) dX8_count_3 (by decide) (by decide) (by decide) (by decide) ?_
    refine tr_aload_n dX8_count_110 rfl ?_
    refine tr_getR dX8_count_111 fg_RX8_26 (by first | assumption | decide) (by first | assumption | rfl) rfl (by omega) ?_
    -- at 114: .invokestatic 160
    refine tr_Si (As := [_]) dX8_count_114 fm_RX8_160 rfl rfl (Nat.le_of_ble_eq_true rfl) (r_right isA_105 hm hw) (fun v μ1 ⟨e1, e2⟩ => ?_)
    refine tr_iret dX8_count_117 (by first | exact trivial | rfl) ⟨e1, e2⟩
  · refine tr_tableIn (off := 115) (tgt := 118) dX8_count_3 (by decide) (by decide) (by decide) (by decide) ?_
    refine tr_aload_n dX8_count_118 rfl ?_
    refine tr_getR dX8_count_119 fg_RX8_26 (by first | assumption | decide) (by first | assumption | rfl) rfl (by omega) ?_
    refine tr_iconst (v := nI 0) dX8_count_122 (by decide) ?_
    refine tr_iald dX8_count_123 (by first | assumption | decide) (by first | assumption | rfl) rfl (by omega) (by omega) (by first | assumption | rfl) ?_
    -- at 124: .ireturn
    refine tr_iret dX8_count_124 (by first | exact trivial | rfl) ⟨rfl, rfl⟩
  · refine tr_tableIn (off := 122) (tgt := 125) dX8_count_3 (by decide) (by decide) (by decide) (by decide) ?_
    exact l_cnt8 h
  · refine tr_tableIn (off := 155) (tgt := 158) dX8_count_3 (by decide) (by decide) (by decide) (by decide) ?_
    exact l_cnt9 h
  · refine tr_tableIn (off := 187) (tgt := 190) dX8_count_3 (by decide) (by decide) (by decide) (by decide) ?_
    exact l_cnt10 h hW
  · refine tr_tableIn (off := 223) (tgt := 226) dX8_count_3 (by decide) (by decide) (by decide) (by decide) ?_
    refine tr_aload_n dX8_count_226 rfl ?_
    refine tr_iconst (v := nI 1) dX8_count_227 (by decide) ?_
    -- at 228: .invokevirtual 221
    refine tr_Vi (As := [_]) dX8_count_228 fm_RX8_221 rfl rfl (by first | assumption | decide) (by first | assumption | rfl) (Nat.le_of_ble_eq_true rfl) (r_ofKind (by omega) hm hw) (fun v μ1 ⟨e1, e2⟩ => ?_)
    refine tr_iret dX8_count_231 (by first | exact trivial | rfl) ⟨e1, e2⟩
  · refine tr_tableIn (off := 229) (tgt := 232) dX8_count_3 (by decide) (by decide) (by decide) (by decide) ?_
    refine tr_aload_n dX8_count_232 rfl ?_
    refine tr_iconst (v := nI 2) dX8_count_233 (by decide) ?_
    -- at 234: .invokevirtual 221
    refine tr_Vi (As := [_]) dX8_count_234 fm_RX8_221 rfl rfl (by first | assumption | decide) (by first | assumption | rfl) (Nat.le_of_ble_eq_true rfl) (r_ofKind (by omega) hm hw) (fun v μ1 ⟨e1, e2⟩ => ?_)
    refine tr_iret dX8_count_237 (by first | exact trivial | rfl) ⟨e1, e2⟩
theorem r_count (h : MI μ σ) (hW : WI σ) : cp X (d + 3) kX8_count [.ref 99, .int x] μ (PM μ (S_count σ x)) := by
  cases hx : ixV x 13 with
  | none =>
    refine cp_of ok_X8_count (L := [.ref 99, .int x, .float 0, .float 0]) rfl ?_
    refine tr_iconst (v := nI 0) dX8_count_0 (by decide) ?_
    refine tr_istore_n_2 dX8_count_1 (by decide) (by first | rfl | assumption) ?_
    refine tr_iload_n dX8_count_2 rfl ?_
    -- at 3: .tableswitch 235 0 12 #[65, 73, 80, 85, 93, 100, 107, 115, 1
    refine tr_tableOut (tgt := 238) dX8_count_3 ?_ (by decide) ?_
    · exact ix_out (n := 12) (by omega) hx
    · refine tr_iconst (v := -1) dX8_count_238 (by decide) ?_
      exact tr_iret dX8_count_239 (by first | exact trivial | rfl) (pm_same h (by simp only [S_count, hx]))
  | some q =>
    obtain ⟨rfl, hq⟩ := ixV_some (by omega) hx
    refine cp_mono (r_cnt hq h hW) (fun r μ' ⟨v, e0, e1, e2⟩ => ⟨v, e0, ?_⟩)
    subst e1
    exact pm_e (q := (cntV σ q, σ)) (by simp only [S_count, hx]) e2 h (fq.rf μ')
theorem r_of {q : Nat} (hr : MR μ 105 c) (hw : wfc c) (hi : i < 7) (hq : q < 7) : cp X (d + 4) kX8_of [.ref 99, .int (nI i), .int (nI q)] μ (qi (fun v μ' => μ' = μ ∧ v = nI (dfM c i q))) := by
  have k3 := hr 3 (by omega)
  have k4 := hr (4 + i) (by omega)
  have k11 := hr (11 + i) (by omega)
  have k19 := hr (19 + i) (by omega)
  have k26 := hr (26 + i) (by omega)
  refine cp_of ok_X8_of (L := [.ref 99, .int (nI i), .int (nI q)]) rfl ?_
  refine tr_iload_n dX8_of_0 rfl ?_
  -- at 1: .ifCond .ne 15
  refine tr_ifnN (tgt := 16) dX8_of_1 (by decide) (by omega) (fun h0 => ?_) (fun h0 => ?_)
  · refine tr_iload_n dX8_of_16 rfl ?_
    refine tr_iconst (v := nI 1) dX8_of_17 (by decide) ?_
    -- at 18: .if_icmp .ne 14
    refine tr_neN (tgt := 32) dX8_of_18 (by decide) (by omega) (by omega) (fun h1 => ?_) (fun h1 => ?_)
    · refine tr_iload_n dX8_of_32 rfl ?_
      refine tr_iconst (v := nI 2) dX8_of_33 (by decide) ?_
      -- at 34: .if_icmp .ne 15
      refine tr_neN (tgt := 49) dX8_of_34 (by decide) (by omega) (by omega) (fun h2 => ?_) (fun h2 => ?_)
      · refine tr_iload_n dX8_of_49 rfl ?_
        refine tr_iconst (v := nI 3) dX8_of_50 (by decide) ?_
        -- at 51: .if_icmp .ne 15
        refine tr_neN (tgt := 66) dX8_of_51 (by decide) (by omega) (by omega) (fun h3 => ?_) (fun h3 => ?_)
        · refine tr_iload_n dX8_of_66 rfl ?_
          refine tr_iconst (v := nI 4) dX8_of_67 (by decide) ?_
          -- at 68: .if_icmp .ne 16
          refine tr_neN (tgt := 84) dX8_of_68 (by decide) (by omega) (by omega) (fun h4 => ?_) (fun h4 => ?_)
          · refine tr_iload_n dX8_of_84 rfl ?_
            refine tr_iconst (v := nI 5) dX8_of_85 (by decide) ?_
            -- at 86: .if_icmp .ne 22
            refine tr_neN (tgt := 108) dX8_of_86 (by decide) (by omega) (by omega) (fun h5 => ?_) (fun h5 => ?_)
            · obtain rfl : q = 6 := by omega
              refine tr_aload_n dX8_of_108 rfl ?_
              refine tr_getR dX8_of_109 fg_RX8_26 (by first | assumption | decide) (by first | assumption | rfl) rfl (by omega) ?_
              refine tr_iload_n dX8_of_112 rfl ?_
              -- at 113: .invokestatic 133
              refine tr_Si (As := [_, _]) dX8_of_113 fm_RX8_133 rfl rfl (Nat.le_of_ble_eq_true rfl) (r_next isA_105 hr hw hi) (fun v μ1 ⟨e1, e2⟩ => ?_)
              refine tr_iret dX8_of_116 (by first | exact trivial | rfl) ⟨e1, e2⟩
            · subst h5
              refine tr_aload_n dX8_of_89 rfl ?_
              refine tr_getR dX8_of_90 fg_RX8_26 (by first | assumption | decide) (by first | assumption | rfl) rfl (by omega) ?_
              refine tr_iload_n dX8_of_93 rfl ?_
              -- at 94: .invokestatic 129
              refine tr_Si (As := [_, _]) dX8_of_94 fm_RX8_129 rfl rfl (Nat.le_of_ble_eq_true rfl) (r_isReady isA_105 hr hw hi) (fun v μ1 ⟨e1, e2⟩ => ?_)
              subst μ1; subst v
              rw [show dfM c i 5 = bN (rdyM c i) from rfl]
              refine tr_ifb0 (tgt := 104) dX8_of_97 (by decide) (fun h6 => ?_) (fun h6 => ?_)
              · refine tr_iconst (v := nI 0) dX8_of_104 (by decide) ?_
                refine tr_goto (tgt := 116) dX8_of_105 (by decide) ?_
                -- at 116: .ireturn
                refine tr_iret dX8_of_116 (by first | exact trivial | rfl) ⟨rfl, by rw [h6]; rfl⟩
              · refine tr_iconst (v := nI 1) dX8_of_100 (by decide) ?_
                refine tr_goto (tgt := 116) dX8_of_101 (by decide) ?_
                -- at 116: .ireturn
                refine tr_iret dX8_of_116 (by first | exact trivial | rfl) ⟨rfl, by rw [h6]; rfl⟩
          · subst h4
            refine tr_aload_n dX8_of_71 rfl ?_
            refine tr_getR dX8_of_72 fg_RX8_26 (by first | assumption | decide) (by first | assumption | rfl) rfl (by omega) ?_
            refine tr_iconst (v := nI 3) dX8_of_75 (by decide) ?_
            refine tr_iald dX8_of_76 (by first | assumption | decide) (by first | assumption | rfl) rfl (by omega) (by omega) (by first | assumption | rfl) ?_
            refine tr_iload_n dX8_of_77 rfl ?_
            refine tr_ishr dX8_of_78 ?_
            refine tr_iconst (v := nI 1) dX8_of_79 (by decide) ?_
            refine tr_iand dX8_of_80 ?_
            -- at 81: .goto 35
            refine tr_v (jam_bit _ hw.jam i hi) ?_
            refine tr_goto (tgt := 116) dX8_of_81 (by decide) ?_
            -- at 116: .ireturn
            refine tr_iret dX8_of_116 (by first | exact trivial | rfl) ⟨rfl, rfl⟩
        · subst h3
          refine tr_aload_n dX8_of_54 rfl ?_
          refine tr_getR dX8_of_55 fg_RX8_26 (by first | assumption | decide) (by first | assumption | rfl) rfl (by omega) ?_
          refine tr_bipush (v := nI 26) dX8_of_58 (by decide) ?_
          refine tr_iload_n dX8_of_60 rfl ?_
          first | with_reducible refine tr_iaddN dX8_of_61 ?_ | refine tr_iadd dX8_of_61 ?_
          refine tr_iald dX8_of_62 (by first | assumption | decide) (by first | assumption | rfl) rfl (by omega) (by omega) (by first | assumption | rfl) ?_
          refine tr_goto (tgt := 116) dX8_of_63 (by decide) ?_
          -- at 116: .ireturn
          refine tr_iret dX8_of_116 (by first | exact trivial | rfl) ⟨rfl, rfl⟩
      · subst h2
        refine tr_aload_n dX8_of_37 rfl ?_
        refine tr_getR dX8_of_38 fg_RX8_26 (by first | assumption | decide) (by first | assumption | rfl) rfl (by omega) ?_
        refine tr_bipush (v := nI 11) dX8_of_41 (by decide) ?_
        refine tr_iload_n dX8_of_43 rfl ?_
        first | with_reducible refine tr_iaddN dX8_of_44 ?_ | refine tr_iadd dX8_of_44 ?_
        refine tr_iald dX8_of_45 (by first | assumption | decide) (by first | assumption | rfl) rfl (by omega) (by omega) (by first | assumption | rfl) ?_
        refine tr_goto (tgt := 116) dX8_of_46 (by decide) ?_
        -- at 116: .ireturn
        refine tr_iret dX8_of_116 (by first | exact trivial | rfl) ⟨rfl, rfl⟩
    · subst h1
      refine tr_aload_n dX8_of_21 rfl ?_
      refine tr_getR dX8_of_22 fg_RX8_26 (by first | assumption | decide) (by first | assumption | rfl) rfl (by omega) ?_
      refine tr_iconst (v := nI 4) dX8_of_25 (by decide) ?_
      refine tr_iload_n dX8_of_26 rfl ?_
      first | with_reducible refine tr_iaddN dX8_of_27 ?_ | refine tr_iadd dX8_of_27 ?_
      refine tr_iald dX8_of_28 (by first | assumption | decide) (by first | assumption | rfl) rfl (by omega) (by omega) (by first | assumption | rfl) ?_
      refine tr_goto (tgt := 116) dX8_of_29 (by decide) ?_
      -- at 116: .ireturn
      refine tr_iret dX8_of_116 (by first | exact trivial | rfl) ⟨rfl, rfl⟩
  · subst h0
    refine tr_aload_n dX8_of_4 rfl ?_
    refine tr_getR dX8_of_5 fg_RX8_26 (by first | assumption | decide) (by first | assumption | rfl) rfl (by omega) ?_
    refine tr_bipush (v := nI 19) dX8_of_8 (by decide) ?_
    refine tr_iload_n dX8_of_10 rfl ?_
    first | with_reducible refine tr_iaddN dX8_of_11 ?_ | refine tr_iadd dX8_of_11 ?_
    refine tr_iald dX8_of_12 (by first | assumption | decide) (by first | assumption | rfl) rfl (by omega) (by omega) (by first | assumption | rfl) ?_
    refine tr_goto (tgt := 116) dX8_of_13 (by decide) ?_
    -- at 116: .ireturn
    refine tr_iret dX8_of_116 (by first | exact trivial | rfl) ⟨rfl, rfl⟩
theorem r_digest (h : MI μ σ) (hW : WI σ) : cp X (d + 5) kX8_digest [.ref 99] μ (ql (fun v μ' => μ' = μ ∧ v = digM σ)) := by
  have hw := hW.now
  have h7 := hw.1
  have hm := h.2.2.1
  have k18 := hm 18 (by omega)
  unfold digM
  refine cp_of ok_X8_digest (L := [.ref 99, .float 0, .float 0, .float 0, .float 0]) rfl ?_
  refine tr_ldc2 (v := lN 17) dX8_digest_0 fk_RX8_224 ?_
  refine tr_lstore_n_1 dX8_digest_3 (by decide) (by first | rfl | assumption) ?_
  refine tr_iconst (v := nI 0) dX8_digest_4 (by decide) ?_
  refine tr_istore_n_3 dX8_digest_5 (by decide) (by first | rfl | assumption) ?_
  -- at 6: .iload_n 3
  refine tw_for (n := 13) (Lf := fun k => [.ref 99, .long (dgM (cntV σ) k (lN 17)), .float 0, .int (nI k), .float 0]) (P := fun k μ1 => μ1 = μ) (fun k μ1 hk hP ih => ?_) (fun μ1 hP => ?_) 0 _ (by omega) rfl
  · subst hP
    refine tr_iload_n dX8_digest_6 rfl ?_
    refine tr_bipush (v := nI 13) dX8_digest_7 (by decide) ?_
    -- at 9: .if_icmp .ge 22
    refine tr_geN (tgt := 31) dX8_digest_9 (by decide) (by omega) (by omega) (fun h1 => ?_) (fun h1 => ?_)
    · omega
    · refine tr_ldc2 (v := lN 31) dX8_digest_12 fk_RX8_226 ?_
      refine tr_lload_n dX8_digest_15 rfl ?_
      refine tr_lmul dX8_digest_16 ?_
      refine tr_aload_n dX8_digest_17 rfl ?_
      refine tr_iload_n dX8_digest_18 rfl ?_
      -- at 19: .invokevirtual 228
      refine tr_Vi (As := [_]) dX8_digest_19 fm_RX8_228 rfl rfl (by first | assumption | decide) (by first | assumption | rfl) (Nat.le_of_ble_eq_true rfl) (r_cnt hk h hW) (fun v μ2 ⟨e1, e2⟩ => ?_)
      subst μ2; subst v
      refine tr_i2l dX8_digest_22 ?_
      refine tr_ladd dX8_digest_23 ?_
      refine tr_lstore_n_1 dX8_digest_24 (by decide) (by first | rfl | assumption) ?_
      first | with_reducible refine tr_iincN_3 dX8_digest_25 (by decide) rfl ?_ | with_reducible refine tr_iincN_3 dX8_digest_25 (by decide) (by assumption) ?_ | refine tr_iinc_3 dX8_digest_25 (by decide) (by first | rfl | assumption) ?_
      refine tr_goto (tgt := 6) dX8_digest_28 (by decide) ?_
      -- at 6: .iload_n 3
      exact ih _ rfl
  · subst hP
    generalize dgM (cntV σ) 13 (lN 17) = H1
    refine tr_iload_n dX8_digest_6 rfl ?_
    refine tr_bipush (v := nI 13) dX8_digest_7 (by decide) ?_
    -- at 9: .if_icmp .ge 22
    refine tr_geN (tgt := 31) dX8_digest_9 (by decide) (by omega) (by omega) (fun h1 => ?_) (fun h1 => ?_)
    · refine tr_iconst (v := nI 0) dX8_digest_31 (by decide) ?_
      refine tr_istore_n_3 dX8_digest_32 (by decide) (by first | rfl | assumption) ?_
      -- at 33: .iload_n 3
      refine tw_for3 (n := nowM σ 18) (Lf := fun k w1 _ _ => [.ref 99, .long (dgD (nowM σ) k H1), .float 0, .int (nI k), w1]) (P := fun k μ2 => μ2 = μ1) (fun k w1 w2 w3 μ2 c1 c2 c3 hk hP ih => ?_) (fun w1 w2 w3 μ2 c1 c2 c3 hP => ?_) 0 (.float 0) (.float 0) (.float 0) _ (by omega) rfl rfl rfl rfl
      · subst hP
        refine tr_iload_n dX8_digest_33 rfl ?_
        refine tr_aload_n dX8_digest_34 rfl ?_
        refine tr_getR dX8_digest_35 fg_RX8_26 (by first | assumption | decide) (by first | assumption | rfl) rfl (by omega) ?_
        refine tr_bipush (v := nI 18) dX8_digest_38 (by decide) ?_
        refine tr_iald dX8_digest_40 (by first | assumption | decide) (by first | assumption | rfl) rfl (by omega) (by omega) (by first | assumption | rfl) ?_
        -- at 41: .if_icmp .ge 40
        refine tr_geN (tgt := 81) dX8_digest_41 (by decide) (by omega) (by omega) (fun h2 => ?_) (fun h2 => ?_)
        · omega
        · refine tr_iconst (v := nI 0) dX8_digest_44 (by decide) ?_
          refine tr_istore_4 dX8_digest_45 (by decide) (by first | rfl | assumption) ?_
          -- at 47: .iload 4
          refine tw_for (n := 7) (Lf := fun q => [.ref 99, .long (dgM (fun q => nI (dfM (nowM σ) k q)) q (dgD (nowM σ) k H1)), .float 0, .int (nI k), .int (nI q)]) (P := fun q μ3 => μ3 = μ2) (fun q μ3 hq hP ih2 => ?_) (fun μ3 hP => ?_) 0 _ (by omega) rfl
          · subst hP
            refine tr_iload dX8_digest_47 rfl ?_
            refine tr_bipush (v := nI 7) dX8_digest_49 (by decide) ?_
            -- at 51: .if_icmp .ge 24
            refine tr_geN (tgt := 75) dX8_digest_51 (by decide) (by omega) (by omega) (fun h3 => ?_) (fun h3 => ?_)
            · omega
            · refine tr_ldc2 (v := lN 31) dX8_digest_54 fk_RX8_226 ?_
              refine tr_lload_n dX8_digest_57 rfl ?_
              refine tr_lmul dX8_digest_58 ?_
              refine tr_aload_n dX8_digest_59 rfl ?_
              refine tr_iload_n dX8_digest_60 rfl ?_
              refine tr_iload dX8_digest_61 rfl ?_
              -- at 63: .invokevirtual 231
              refine tr_Vi (As := [_, _]) dX8_digest_63 fm_RX8_231 rfl rfl (by first | assumption | decide) (by first | assumption | rfl) (Nat.le_of_ble_eq_true rfl) (r_of hm hw (by omega) hq) (fun v μ4 ⟨e1, e2⟩ => ?_)
              subst μ4; subst v
              refine tr_i2l dX8_digest_66 ?_
              refine tr_ladd dX8_digest_67 ?_
              refine tr_lstore_n_1 dX8_digest_68 (by decide) (by first | rfl | assumption) ?_
              first | with_reducible refine tr_iincN_4 dX8_digest_69 (by decide) rfl ?_ | with_reducible refine tr_iincN_4 dX8_digest_69 (by decide) (by assumption) ?_ | refine tr_iinc_4 dX8_digest_69 (by decide) (by first | rfl | assumption) ?_
              refine tr_goto (tgt := 47) dX8_digest_72 (by decide) ?_
              -- at 47: .iload 4
              exact ih2 _ rfl
          · subst hP
            refine tr_iload dX8_digest_47 rfl ?_
            refine tr_bipush (v := nI 7) dX8_digest_49 (by decide) ?_
            -- at 51: .if_icmp .ge 24
            refine tr_geN (tgt := 75) dX8_digest_51 (by decide) (by omega) (by omega) (fun h3 => ?_) (fun h3 => ?_)
            · first | with_reducible refine tr_iincN_3 dX8_digest_75 (by decide) rfl ?_ | with_reducible refine tr_iincN_3 dX8_digest_75 (by decide) (by assumption) ?_ | refine tr_iinc_3 dX8_digest_75 (by decide) (by first | rfl | assumption) ?_
              refine tr_goto (tgt := 33) dX8_digest_78 (by decide) ?_
              -- at 33: .iload_n 3
              exact ih _ w2 w3 _ rfl c2 c3 rfl
            · omega
      · subst hP
        generalize dgD (nowM σ) (nowM σ 18) H1 = H2
        refine tr_iload_n dX8_digest_33 rfl ?_
        refine tr_aload_n dX8_digest_34 rfl ?_
        refine tr_getR dX8_digest_35 fg_RX8_26 (by first | assumption | decide) (by first | assumption | rfl) rfl (by omega) ?_
        refine tr_bipush (v := nI 18) dX8_digest_38 (by decide) ?_
        refine tr_iald dX8_digest_40 (by first | assumption | decide) (by first | assumption | rfl) rfl (by omega) (by omega) (by first | assumption | rfl) ?_
        -- at 41: .if_icmp .ge 40
        refine tr_geN (tgt := 81) dX8_digest_41 (by decide) (by omega) (by omega) (fun h2 => ?_) (fun h2 => ?_)
        · refine tr_iconst (v := nI 0) dX8_digest_81 (by decide) ?_
          refine tr_istore_n_3 dX8_digest_82 (by decide) (by first | rfl | assumption) ?_
          -- at 83: .iload_n 3
          refine tw_for (n := 3) (Lf := fun k => [.ref 99, .long (dgM (fun k => szK (sK σ k)) k H2), .float 0, .int (nI k), w1]) (P := fun k μ3 => μ3 = μ2) (fun k μ3 hk hP ih => ?_) (fun μ3 hP => ?_) 0 _ (by omega) rfl
          · subst hP
            have hX := (h.2.2.2.2.2.1 k hk).1
            refine tr_iload_n dX8_digest_83 rfl ?_
            refine tr_aload_n dX8_digest_84 rfl ?_
            refine tr_getR dX8_digest_85 fg_RX8_47 (by first | assumption | decide) (by first | assumption | rfl) rfl (by omega) ?_
            refine tr_alen dX8_digest_88 (by first | assumption | decide) (by first | assumption | rfl) (by decide) ?_
            -- at 89: .if_icmp .ge 23
            refine tr_geN (tgt := 112) dX8_digest_89 (by decide) (by omega) (by omega) (fun h3 => ?_) (fun h3 => ?_)
            · omega
            · refine tr_ldc2 (v := lN 31) dX8_digest_92 fk_RX8_226 ?_
              refine tr_lload_n dX8_digest_95 rfl ?_
              refine tr_lmul dX8_digest_96 ?_
              refine tr_aload_n dX8_digest_97 rfl ?_
              refine tr_getR dX8_digest_98 fg_RX8_47 (by first | assumption | decide) (by first | assumption | rfl) rfl (by omega) ?_
              refine tr_iload_n dX8_digest_101 rfl ?_
              refine tr_iald dX8_digest_102 (by first | assumption | decide) (by first | assumption | rfl) rfl (by omega) (by omega) (by first | assumption | rfl) ?_
              refine tr_i2l dX8_digest_103 ?_
              refine tr_ladd dX8_digest_104 ?_
              refine tr_lstore_n_1 dX8_digest_105 (by decide) (by first | rfl | assumption) ?_
              first | with_reducible refine tr_iincN_3 dX8_digest_106 (by decide) rfl ?_ | with_reducible refine tr_iincN_3 dX8_digest_106 (by decide) (by assumption) ?_ | refine tr_iinc_3 dX8_digest_106 (by decide) (by first | rfl | assumption) ?_
              refine tr_goto (tgt := 83) dX8_digest_109 (by decide) ?_
              -- at 83: .iload_n 3
              exact ih _ rfl
          · subst hP
            generalize dgM (fun k => szK (sK σ k)) 3 H2 = H3
            refine tr_iload_n dX8_digest_83 rfl ?_
            refine tr_aload_n dX8_digest_84 rfl ?_
            refine tr_getR dX8_digest_85 fg_RX8_47 (by first | assumption | decide) (by first | assumption | rfl) rfl (by omega) ?_
            refine tr_alen dX8_digest_88 (by first | assumption | decide) (by first | assumption | rfl) (by decide) ?_
            -- at 89: .if_icmp .ge 23
            refine tr_geN (tgt := 112) dX8_digest_89 (by decide) (by omega) (by omega) (fun h3 => ?_) (fun h3 => ?_)
            · refine tr_iconst (v := nI 0) dX8_digest_112 (by decide) ?_
              refine tr_istore_n_3 dX8_digest_113 (by decide) (by first | rfl | assumption) ?_
              -- at 114: .iload_n 3
              refine tw_for3 (n := 6) (Lf := fun k w1 _ _ => [.ref 99, .long (dgR (sR σ) k H3), .float 0, .int (nI k), w1]) (P := fun k μ4 => μ4 = μ3) (fun k w1 w2 w3 μ4 d1 d2 d3 hk hP ih => ?_) (fun w1 w2 w3 μ4 d1 d2 d3 hP => ?_) 0 w1 (.float 0) (.float 0) _ (by omega) c1 rfl rfl rfl
              · subst hP
                have ih' := ih (.int (nI 0)) w2 w3 _ rfl d2 d3 rfl
                have hX := h.1 k hk
                have r0 := hX.sz
                rw [show dgR (sR σ) (k + 1) H3 = dgO (sR σ k) (dgR (sR σ) k H3) from rfl] at ih ih'
                generalize dgR (sR σ) k H3 = HH at *
                refine tr_iload_n dX8_digest_114 rfl ?_
                refine tr_bipush (v := nI 6) dX8_digest_115 (by decide) ?_
                -- at 117: .if_icmp .ge 63
                refine tr_geN (tgt := 180) dX8_digest_117 (by decide) (by omega) (by omega) (fun h4 => ?_) (fun h4 => ?_)
                · omega
                · refine tr_ldc2 (v := lN 31) dX8_digest_120 fk_RX8_226 ?_
                  refine tr_lload_n dX8_digest_123 rfl ?_
                  refine tr_lmul dX8_digest_124 ?_
                  refine tr_aload_n dX8_digest_125 rfl ?_
                  refine tr_getR dX8_digest_126 fg_RX8_7 (by first | assumption | decide) (by first | assumption | rfl) rfl (by omega) ?_
                  refine tr_iload_n dX8_digest_129 rfl ?_
                  refine tr_iald dX8_digest_130 (by first | assumption | decide) (by first | assumption | rfl) rfl (by omega) (by omega) (by first | assumption | rfl) ?_
                  refine tr_i2l dX8_digest_131 ?_
                  refine tr_ladd dX8_digest_132 ?_
                  refine tr_lstore_n_1 dX8_digest_133 (by decide) (by first | rfl | assumption) ?_
                  -- at 134: .iconst 0
                  cases ho : sR σ k with
                  | none =>
                    rw [ho] at ih' r0
                    have r0 : μ4.1 100 k = -1 := r0
                    refine tr_iconst (v := nI 0) dX8_digest_134 (by decide) ?_
                    refine tr_istore_4 dX8_digest_135 (by decide) (by first | rfl | assumption) ?_
                    refine tr_iload dX8_digest_137 rfl ?_
                    refine tr_aload_n dX8_digest_139 rfl ?_
                    refine tr_getR dX8_digest_140 fg_RX8_7 (by first | assumption | decide) (by first | assumption | rfl) rfl (by omega) ?_
                    refine tr_iload_n dX8_digest_143 rfl ?_
                    refine tr_iald dX8_digest_144 (by first | assumption | decide) (by first | assumption | rfl) rfl (by omega) (by omega) (by first | assumption | rfl) ?_
                    -- at 145: .if_icmp .ge 29
                    refine tr_icmp_ge (tgt := 174) dX8_digest_145 (by decide) (fun h5 => ?_) (fun h5 => ?_)
                    · first | with_reducible refine tr_iincN_3 dX8_digest_174 (by decide) rfl ?_ | with_reducible refine tr_iincN_3 dX8_digest_174 (by decide) (by assumption) ?_ | refine tr_iinc_3 dX8_digest_174 (by decide) (by first | rfl | assumption) ?_
                      refine tr_goto (tgt := 114) dX8_digest_177 (by decide) ?_
                      -- at 114: .iload_n 3
                      exact ih'
                    · exact absurd (show (-1 : Int32) ≤ nI 0 by decide) h5
                  | some v =>
                    obtain ⟨n, f⟩ := v
                    rw [ho] at ih hX
                    have r1 := hX.1
                    have r2 := hX.2.1
                    rw [show szR (some (n, f)) = nI n from rfl]
                    refine tr_iconst (v := nI 0) dX8_digest_134 (by decide) ?_
                    refine tr_istore_4 dX8_digest_135 (by decide) (by first | rfl | assumption) ?_
                    -- at 137: .iload 4
                    refine tw_for (n := n) (Lf := fun q => [.ref 99, .long (dgM f q (lN 31 * HH + (nI n).toInt64)), .float 0, .int (nI k), .int (nI q)]) (P := fun q μ5 => μ5 = μ4) (fun q μ5 hq hP ih2 => ?_) (fun μ5 hP => ?_) 0 _ (by omega) rfl
                    · subst hP
                      have r3 := hX.2.2 q hq
                      refine tr_iload dX8_digest_137 rfl ?_
                      refine tr_aload_n dX8_digest_139 rfl ?_
                      refine tr_getR dX8_digest_140 fg_RX8_7 (by first | assumption | decide) (by first | assumption | rfl) rfl (by omega) ?_
                      refine tr_iload_n dX8_digest_143 rfl ?_
                      refine tr_iald dX8_digest_144 (by first | assumption | decide) (by first | assumption | rfl) rfl (by omega) (by omega) (by first | assumption | rfl) ?_
                      -- at 145: .if_icmp .ge 29
                      refine tr_geN (tgt := 174) dX8_digest_145 (by decide) (by omega) (by omega) (fun h5 => ?_) (fun h5 => ?_)
                      · omega
                      · refine tr_ldc2 (v := lN 31) dX8_digest_148 fk_RX8_226 ?_
                        refine tr_lload_n dX8_digest_151 rfl ?_
                        refine tr_lmul dX8_digest_152 ?_
                        refine tr_aload_n dX8_digest_153 rfl ?_
                        refine tr_getR dX8_digest_154 fg_RX8_13 (by first | assumption | decide) (by first | assumption | rfl) rfl (by omega) ?_
                        refine tr_bipush (v := nI 40) dX8_digest_157 (by decide) ?_
                        refine tr_iload_n dX8_digest_159 rfl ?_
                        first | with_reducible refine tr_imulN dX8_digest_160 ?_ | refine tr_imul dX8_digest_160 ?_
                        refine tr_iload dX8_digest_161 rfl ?_
                        first | with_reducible refine tr_iaddN dX8_digest_163 ?_ | refine tr_iadd dX8_digest_163 ?_
                        refine tr_iald dX8_digest_164 (by first | assumption | decide) (by first | assumption | rfl) rfl (by omega) (by omega) (by first | assumption | rfl) ?_
                        refine tr_i2l dX8_digest_165 ?_
                        refine tr_ladd dX8_digest_166 ?_
                        refine tr_lstore_n_1 dX8_digest_167 (by decide) (by first | rfl | assumption) ?_
                        first | with_reducible refine tr_iincN_4 dX8_digest_168 (by decide) rfl ?_ | with_reducible refine tr_iincN_4 dX8_digest_168 (by decide) (by assumption) ?_ | refine tr_iinc_4 dX8_digest_168 (by decide) (by first | rfl | assumption) ?_
                        refine tr_goto (tgt := 137) dX8_digest_171 (by decide) ?_
                        -- at 137: .iload 4
                        exact ih2 _ rfl
                    · subst hP
                      refine tr_iload dX8_digest_137 rfl ?_
                      refine tr_aload_n dX8_digest_139 rfl ?_
                      refine tr_getR dX8_digest_140 fg_RX8_7 (by first | assumption | decide) (by first | assumption | rfl) rfl (by omega) ?_
                      refine tr_iload_n dX8_digest_143 rfl ?_
                      refine tr_iald dX8_digest_144 (by first | assumption | decide) (by first | assumption | rfl) rfl (by omega) (by omega) (by first | assumption | rfl) ?_
                      -- at 145: .if_icmp .ge 29
                      refine tr_geN (tgt := 174) dX8_digest_145 (by decide) (by omega) (by omega) (fun h5 => ?_) (fun h5 => ?_)
                      · first | with_reducible refine tr_iincN_3 dX8_digest_174 (by decide) rfl ?_ | with_reducible refine tr_iincN_3 dX8_digest_174 (by decide) (by assumption) ?_ | refine tr_iinc_3 dX8_digest_174 (by decide) (by first | rfl | assumption) ?_
                        refine tr_goto (tgt := 114) dX8_digest_177 (by decide) ?_
                        -- at 114: .iload_n 3
                        exact ih (.int (nI n)) w2 w3 _ rfl d2 d3 rfl
                      · omega
              · subst hP
                generalize dgR (sR σ) 6 H3 = H4
                refine tr_iload_n dX8_digest_114 rfl ?_
                refine tr_bipush (v := nI 6) dX8_digest_115 (by decide) ?_
                -- at 117: .if_icmp .ge 63
                refine tr_geN (tgt := 180) dX8_digest_117 (by decide) (by omega) (by omega) (fun h4 => ?_) (fun h4 => ?_)
                · refine tr_iconst (v := nI 0) dX8_digest_180 (by decide) ?_
                  refine tr_istore_n_3 dX8_digest_181 (by decide) (by first | rfl | assumption) ?_
                  -- at 182: .iload_n 3
                  refine tw_for3 (n := 4) (Lf := fun k w1 _ _ => [.ref 99, .long (dgR (sT σ) k H4), .float 0, .int (nI k), w1]) (P := fun k μ5 => μ5 = μ4) (fun k w1 w2 w3 μ5 d1 d2 d3 hk hP ih => ?_) (fun w1 w2 w3 μ5 d1 d2 d3 hP => ?_) 0 w1 (.float 0) (.float 0) _ (by omega) d1 rfl rfl rfl
                  · subst hP
                    have ih' := ih (.int (nI 0)) w2 w3 _ rfl d2 d3 rfl
                    have hX := h.2.1 k hk
                    have r0 := hX.sz
                    rw [show dgR (sT σ) (k + 1) H4 = dgO (sT σ k) (dgR (sT σ) k H4) from rfl] at ih ih'
                    generalize dgR (sT σ) k H4 = HH at *
                    refine tr_iload_n dX8_digest_182 rfl ?_
                    refine tr_iconst (v := nI 4) dX8_digest_183 (by decide) ?_
                    -- at 184: .if_icmp .ge 63
                    refine tr_geN (tgt := 247) dX8_digest_184 (by decide) (by omega) (by omega) (fun h5 => ?_) (fun h5 => ?_)
                    · omega
                    · refine tr_ldc2 (v := lN 31) dX8_digest_187 fk_RX8_226 ?_
                      refine tr_lload_n dX8_digest_190 rfl ?_
                      refine tr_lmul dX8_digest_191 ?_
                      refine tr_aload_n dX8_digest_192 rfl ?_
                      refine tr_getR dX8_digest_193 fg_RX8_19 (by first | assumption | decide) (by first | assumption | rfl) rfl (by omega) ?_
                      refine tr_iload_n dX8_digest_196 rfl ?_
                      refine tr_iald dX8_digest_197 (by first | assumption | decide) (by first | assumption | rfl) rfl (by omega) (by omega) (by first | assumption | rfl) ?_
                      refine tr_i2l dX8_digest_198 ?_
                      refine tr_ladd dX8_digest_199 ?_
                      refine tr_lstore_n_1 dX8_digest_200 (by decide) (by first | rfl | assumption) ?_
                      -- at 201: .iconst 0
                      cases ho : sT σ k with
                      | none =>
                        rw [ho] at ih' r0
                        have r0 : μ5.1 103 k = -1 := r0
                        refine tr_iconst (v := nI 0) dX8_digest_201 (by decide) ?_
                        refine tr_istore_4 dX8_digest_202 (by decide) (by first | rfl | assumption) ?_
                        refine tr_iload dX8_digest_204 rfl ?_
                        refine tr_aload_n dX8_digest_206 rfl ?_
                        refine tr_getR dX8_digest_207 fg_RX8_19 (by first | assumption | decide) (by first | assumption | rfl) rfl (by omega) ?_
                        refine tr_iload_n dX8_digest_210 rfl ?_
                        refine tr_iald dX8_digest_211 (by first | assumption | decide) (by first | assumption | rfl) rfl (by omega) (by omega) (by first | assumption | rfl) ?_
                        -- at 212: .if_icmp .ge 29
                        refine tr_icmp_ge (tgt := 241) dX8_digest_212 (by decide) (fun h6 => ?_) (fun h6 => ?_)
                        · first | with_reducible refine tr_iincN_3 dX8_digest_241 (by decide) rfl ?_ | with_reducible refine tr_iincN_3 dX8_digest_241 (by decide) (by assumption) ?_ | refine tr_iinc_3 dX8_digest_241 (by decide) (by first | rfl | assumption) ?_
                          refine tr_goto (tgt := 182) dX8_digest_244 (by decide) ?_
                          -- at 182: .iload_n 3
                          exact ih'
                        · exact absurd (show (-1 : Int32) ≤ nI 0 by decide) h6
                      | some v =>
                        obtain ⟨n, f⟩ := v
                        rw [ho] at ih hX
                        have r1 := hX.1
                        have r2 := hX.2.1
                        rw [show szR (some (n, f)) = nI n from rfl]
                        refine tr_iconst (v := nI 0) dX8_digest_201 (by decide) ?_
                        refine tr_istore_4 dX8_digest_202 (by decide) (by first | rfl | assumption) ?_
                        -- at 204: .iload 4
                        refine tw_for (n := n) (Lf := fun q => [.ref 99, .long (dgM f q (lN 31 * HH + (nI n).toInt64)), .float 0, .int (nI k), .int (nI q)]) (P := fun q μ6 => μ6 = μ5) (fun q μ6 hq hP ih2 => ?_) (fun μ6 hP => ?_) 0 _ (by omega) rfl
                        · subst hP
                          have r3 := hX.2.2 q hq
                          refine tr_iload dX8_digest_204 rfl ?_
                          refine tr_aload_n dX8_digest_206 rfl ?_
                          refine tr_getR dX8_digest_207 fg_RX8_19 (by first | assumption | decide) (by first | assumption | rfl) rfl (by omega) ?_
                          refine tr_iload_n dX8_digest_210 rfl ?_
                          refine tr_iald dX8_digest_211 (by first | assumption | decide) (by first | assumption | rfl) rfl (by omega) (by omega) (by first | assumption | rfl) ?_
                          -- at 212: .if_icmp .ge 29
                          refine tr_geN (tgt := 241) dX8_digest_212 (by decide) (by omega) (by omega) (fun h6 => ?_) (fun h6 => ?_)
                          · omega
                          · refine tr_ldc2 (v := lN 31) dX8_digest_215 fk_RX8_226 ?_
                            refine tr_lload_n dX8_digest_218 rfl ?_
                            refine tr_lmul dX8_digest_219 ?_
                            refine tr_aload_n dX8_digest_220 rfl ?_
                            refine tr_getR dX8_digest_221 fg_RX8_22 (by first | assumption | decide) (by first | assumption | rfl) rfl (by omega) ?_
                            refine tr_bipush (v := nI 60) dX8_digest_224 (by decide) ?_
                            refine tr_iload_n dX8_digest_226 rfl ?_
                            first | with_reducible refine tr_imulN dX8_digest_227 ?_ | refine tr_imul dX8_digest_227 ?_
                            refine tr_iload dX8_digest_228 rfl ?_
                            first | with_reducible refine tr_iaddN dX8_digest_230 ?_ | refine tr_iadd dX8_digest_230 ?_
                            refine tr_bald dX8_digest_231 (by first | assumption | decide) (by first | assumption | rfl) rfl (by omega) (by omega) (by first | assumption | rfl) ?_
                            refine tr_i2l dX8_digest_232 ?_
                            refine tr_ladd dX8_digest_233 ?_
                            refine tr_lstore_n_1 dX8_digest_234 (by decide) (by first | rfl | assumption) ?_
                            first | with_reducible refine tr_iincN_4 dX8_digest_235 (by decide) rfl ?_ | with_reducible refine tr_iincN_4 dX8_digest_235 (by decide) (by assumption) ?_ | refine tr_iinc_4 dX8_digest_235 (by decide) (by first | rfl | assumption) ?_
                            refine tr_goto (tgt := 204) dX8_digest_238 (by decide) ?_
                            -- at 204: .iload 4
                            exact ih2 _ rfl
                        · subst hP
                          refine tr_iload dX8_digest_204 rfl ?_
                          refine tr_aload_n dX8_digest_206 rfl ?_
                          refine tr_getR dX8_digest_207 fg_RX8_19 (by first | assumption | decide) (by first | assumption | rfl) rfl (by omega) ?_
                          refine tr_iload_n dX8_digest_210 rfl ?_
                          refine tr_iald dX8_digest_211 (by first | assumption | decide) (by first | assumption | rfl) rfl (by omega) (by omega) (by first | assumption | rfl) ?_
                          -- at 212: .if_icmp .ge 29
                          refine tr_geN (tgt := 241) dX8_digest_212 (by decide) (by omega) (by omega) (fun h6 => ?_) (fun h6 => ?_)
                          · first | with_reducible refine tr_iincN_3 dX8_digest_241 (by decide) rfl ?_ | with_reducible refine tr_iincN_3 dX8_digest_241 (by decide) (by assumption) ?_ | refine tr_iinc_3 dX8_digest_241 (by decide) (by first | rfl | assumption) ?_
                            refine tr_goto (tgt := 182) dX8_digest_244 (by decide) ?_
                            -- at 182: .iload_n 3
                            exact ih (.int (nI n)) w2 w3 _ rfl d2 d3 rfl
                          · omega
                  · subst hP
                    refine tr_iload_n dX8_digest_182 rfl ?_
                    refine tr_iconst (v := nI 4) dX8_digest_183 (by decide) ?_
                    -- at 184: .if_icmp .ge 63
                    refine tr_geN (tgt := 247) dX8_digest_184 (by decide) (by omega) (by omega) (fun h5 => ?_) (fun h5 => ?_)
                    · refine tr_lload_n dX8_digest_247 rfl ?_
                      -- at 248: .lreturn
                      refine tr_lret dX8_digest_248 (by first | exact trivial | rfl) ⟨rfl, rfl⟩
                    · omega
                · omega
            · omega
        · omega
    · omega
end M14
