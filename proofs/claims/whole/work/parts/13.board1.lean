-- ===== Board: isJammed, isDue, isReady, skippedFrom, afterTurn, step =====
section B1
variable {X : Nat × (Nat → Int32)} {d : Nat} {μ : am_M} {a i : Nat} {c : NF}
theorem c_isJammed (hB : isB a) (hr : BR μ a c) (hw : wfc c) (hi : i < c 18) : cp X (d + 1) kX0_isJammed [.ref a, .int (nI i)] μ (qi (fun v μ' => μ' = μ ∧ v = nI (bN (jmM c i)))) := by
  obtain ⟨⟨i0, i1, i2, i3, i4⟩, s0, s1, s2, s3, s4⟩ := hB
  obtain ⟨r4, r5, r6, r7, r8, rr⟩ := hr
  have hw1 := hw.1
  refine cp_of ok_X0_isJammed (L := [.ref a, .int (nI i)]) rfl ?_
  refine tr_aload_n dX0_isJammed_0 rfl ?_
  refine tr_getI dX0_isJammed_1 fg_RX0_43 (by first | assumption | decide) (by first | assumption | rfl) rfl (by first | assumption | rfl) ?_
  refine tr_iload_n dX0_isJammed_4 rfl ?_
  refine tr_ishr dX0_isJammed_5 ?_
  refine tr_iconst (v := nI 1) dX0_isJammed_6 (by decide) ?_
  refine tr_iand dX0_isJammed_7 ?_
  -- at 8: .ifCond .eq 7
  refine tr_v (jam_bit _ hw.jam0 i (by omega)) ?_
  refine tr_ifb0 (tgt := 15) dX0_isJammed_8 (by decide) (fun h => ?_) (fun h => ?_)
  · refine tr_iconst (v := nI 0) dX0_isJammed_15 (by decide) ?_
    -- at 16: .ireturn
    refine tr_iret dX0_isJammed_16 (by first | exact trivial | rfl) ⟨rfl, by rw [show jmM c i = false from h]; rfl⟩
  · refine tr_iconst (v := nI 1) dX0_isJammed_11 (by decide) ?_
    refine tr_goto (tgt := 16) dX0_isJammed_12 (by decide) ?_
    -- at 16: .ireturn
    refine tr_iret dX0_isJammed_16 (by first | exact trivial | rfl) ⟨rfl, by rw [show jmM c i = true from h]; rfl⟩
theorem c_isDue (hB : isB a) (hr : BR μ a c) (hw : wfc c) (hi : i < c 18) : cp X (d + 1) kX0_isDue [.ref a, .int (nI i)] μ (qi (fun v μ' => μ' = μ ∧ v = nI (bN (letM (c (19 + i)) (c 1) (decide (c (4 + i) = c (26 + i))))))) := by
  obtain ⟨⟨i0, i1, i2, i3, i4⟩, s0, s1, s2, s3, s4⟩ := hB
  obtain ⟨r4, r5, r6, r7, r8, rr⟩ := hr
  have hw1 := hw.1
  obtain ⟨q1, q2, q3, q4⟩ := rr i hi
  obtain ⟨w1, w2, w3, w4⟩ := hw.2.2.2 i (by omega)
  refine cp_of ok_X0_isDue (L := [.ref a, .int (nI i)]) rfl ?_
  refine tr_aload_n dX0_isDue_0 rfl ?_
  refine tr_getR dX0_isDue_1 fg_RX0_9 (by first | assumption | decide) (by first | assumption | rfl) rfl (by omega) ?_
  refine tr_iload_n dX0_isDue_4 rfl ?_
  refine tr_iald dX0_isDue_5 (by first | assumption | decide) (by first | assumption | rfl) rfl (by omega) (by omega) (by first | assumption | rfl) ?_
  refine tr_iconst (v := nI 4) dX0_isDue_6 (by decide) ?_
  -- at 7: .if_icmp .ne 33
  refine tr_neN (tgt := 40) dX0_isDue_7 (by decide) (by omega) (by omega) (fun h1 => ?_) (fun h1 => ?_)
  · refine tr_aload_n dX0_isDue_40 rfl ?_
    refine tr_getI dX0_isDue_41 fg_RX0_37 (by first | assumption | decide) (by first | assumption | rfl) rfl (by first | assumption | rfl) ?_
    refine tr_iconst (v := nI 2) dX0_isDue_44 (by decide) ?_
    first | with_reducible refine tr_iremN dX0_isDue_45 (by omega) (by omega) (by omega) ?_ | refine tr_irem dX0_isDue_45 (by decide) ?_
    -- at 46: .ifCond .eq 23
    refine tr_if_eq (tgt := 69) dX0_isDue_46 (by decide) (fun h2 => ?_) (fun h2 => ?_)
    · refine tr_iconst (v := nI 1) dX0_isDue_69 (by decide) ?_
      refine tr_goto (tgt := 74) dX0_isDue_70 (by decide) ?_
      -- at 74: .ireturn
      refine tr_iret dX0_isDue_74 (by first | exact trivial | rfl) ⟨rfl, by
        have : evM (c 1) 2 = true := decide_eq_true h2
        simp [letM, h1, this, bN]⟩
    · have h2' : evM (c 1) 2 = false := decide_eq_false h2
      refine tr_aload_n dX0_isDue_49 rfl ?_
      refine tr_getR dX0_isDue_50 fg_RX0_9 (by first | assumption | decide) (by first | assumption | rfl) rfl (by omega) ?_
      refine tr_iload_n dX0_isDue_53 rfl ?_
      refine tr_iald dX0_isDue_54 (by first | assumption | decide) (by first | assumption | rfl) rfl (by omega) (by omega) (by first | assumption | rfl) ?_
      refine tr_iconst (v := nI 1) dX0_isDue_55 (by decide) ?_
      -- at 56: .if_icmp .eq 17
      refine tr_eqN (tgt := 73) dX0_isDue_56 (by decide) (by omega) (by omega) (fun h3 => ?_) (fun h3 => ?_)
      · refine tr_iconst (v := nI 0) dX0_isDue_73 (by decide) ?_
        -- at 74: .ireturn
        refine tr_iret dX0_isDue_74 (by first | exact trivial | rfl) ⟨rfl, by simp [letM, h3, h2', bN]⟩
      · refine tr_aload_n dX0_isDue_59 rfl ?_
        refine tr_getR dX0_isDue_60 fg_RX0_9 (by first | assumption | decide) (by first | assumption | rfl) rfl (by omega) ?_
        refine tr_iload_n dX0_isDue_63 rfl ?_
        refine tr_iald dX0_isDue_64 (by first | assumption | decide) (by first | assumption | rfl) rfl (by omega) (by omega) (by first | assumption | rfl) ?_
        refine tr_iconst (v := nI 4) dX0_isDue_65 (by decide) ?_
        -- at 66: .if_icmp .eq 7
        refine tr_eqN (tgt := 73) dX0_isDue_66 (by decide) (by omega) (by omega) (fun h4 => ?_) (fun h4 => ?_)
        · exact absurd h4 h1
        · refine tr_iconst (v := nI 1) dX0_isDue_69 (by decide) ?_
          refine tr_goto (tgt := 74) dX0_isDue_70 (by decide) ?_
          -- at 74: .ireturn
          refine tr_iret dX0_isDue_74 (by first | exact trivial | rfl) ⟨rfl, by simp [letM, h1, h3, bN]⟩
  · refine tr_aload_n dX0_isDue_10 rfl ?_
    refine tr_getR dX0_isDue_11 fg_RX0_15 (by first | assumption | decide) (by first | assumption | rfl) rfl (by omega) ?_
    refine tr_iload_n dX0_isDue_14 rfl ?_
    refine tr_iald dX0_isDue_15 (by first | assumption | decide) (by first | assumption | rfl) rfl (by omega) (by omega) (by first | assumption | rfl) ?_
    refine tr_aload_n dX0_isDue_16 rfl ?_
    refine tr_getR dX0_isDue_17 fg_RX0_21 (by first | assumption | decide) (by first | assumption | rfl) rfl (by omega) ?_
    refine tr_iload_n dX0_isDue_20 rfl ?_
    refine tr_iald dX0_isDue_21 (by first | assumption | decide) (by first | assumption | rfl) rfl (by omega) (by omega) (by first | assumption | rfl) ?_
    -- at 22: .if_icmp .ne 18
    refine tr_neN (tgt := 40) dX0_isDue_22 (by decide) (by omega) (by omega) (fun h5 => ?_) (fun h5 => ?_)
    · refine tr_aload_n dX0_isDue_40 rfl ?_
      refine tr_getI dX0_isDue_41 fg_RX0_37 (by first | assumption | decide) (by first | assumption | rfl) rfl (by first | assumption | rfl) ?_
      refine tr_iconst (v := nI 2) dX0_isDue_44 (by decide) ?_
      first | with_reducible refine tr_iremN dX0_isDue_45 (by omega) (by omega) (by omega) ?_ | refine tr_irem dX0_isDue_45 (by decide) ?_
      -- at 46: .ifCond .eq 23
      refine tr_if_eq (tgt := 69) dX0_isDue_46 (by decide) (fun h2 => ?_) (fun h2 => ?_)
      · refine tr_iconst (v := nI 1) dX0_isDue_69 (by decide) ?_
        refine tr_goto (tgt := 74) dX0_isDue_70 (by decide) ?_
        -- at 74: .ireturn
        refine tr_iret dX0_isDue_74 (by first | exact trivial | rfl) ⟨rfl, by
          have : evM (c 1) 2 = true := decide_eq_true h2
          simp [letM, h1, this, h5, bN]⟩
      · have h2' : evM (c 1) 2 = false := decide_eq_false h2
        refine tr_aload_n dX0_isDue_49 rfl ?_
        refine tr_getR dX0_isDue_50 fg_RX0_9 (by first | assumption | decide) (by first | assumption | rfl) rfl (by omega) ?_
        refine tr_iload_n dX0_isDue_53 rfl ?_
        refine tr_iald dX0_isDue_54 (by first | assumption | decide) (by first | assumption | rfl) rfl (by omega) (by omega) (by first | assumption | rfl) ?_
        refine tr_iconst (v := nI 1) dX0_isDue_55 (by decide) ?_
        -- at 56: .if_icmp .eq 17
        refine tr_eqN (tgt := 73) dX0_isDue_56 (by decide) (by omega) (by omega) (fun h3 => ?_) (fun h3 => ?_)
        · omega
        · refine tr_aload_n dX0_isDue_59 rfl ?_
          refine tr_getR dX0_isDue_60 fg_RX0_9 (by first | assumption | decide) (by first | assumption | rfl) rfl (by omega) ?_
          refine tr_iload_n dX0_isDue_63 rfl ?_
          refine tr_iald dX0_isDue_64 (by first | assumption | decide) (by first | assumption | rfl) rfl (by omega) (by omega) (by first | assumption | rfl) ?_
          refine tr_iconst (v := nI 4) dX0_isDue_65 (by decide) ?_
          -- at 66: .if_icmp .eq 7
          refine tr_eqN (tgt := 73) dX0_isDue_66 (by decide) (by omega) (by omega) (fun h4 => ?_) (fun h4 => ?_)
          · refine tr_iconst (v := nI 0) dX0_isDue_73 (by decide) ?_
            -- at 74: .ireturn
            refine tr_iret dX0_isDue_74 (by first | exact trivial | rfl) ⟨rfl, by simp [letM, h1, h2', h5, bN]⟩
          · exact absurd h1 h4
    · refine tr_aload_n dX0_isDue_25 rfl ?_
      refine tr_getI dX0_isDue_26 fg_RX0_37 (by first | assumption | decide) (by first | assumption | rfl) rfl (by first | assumption | rfl) ?_
      refine tr_iconst (v := nI 4) dX0_isDue_29 (by decide) ?_
      first | with_reducible refine tr_iremN dX0_isDue_30 (by omega) (by omega) (by omega) ?_ | refine tr_irem dX0_isDue_30 (by decide) ?_
      -- at 31: .ifCond .ne 7
      refine tr_if_ne (tgt := 38) dX0_isDue_31 (by decide) (fun h2 => ?_) (fun h2 => ?_)
      · have h2' : evM (c 1) 4 = false := decide_eq_false h2
        refine tr_iconst (v := nI 0) dX0_isDue_38 (by decide) ?_
        -- at 39: .ireturn
        refine tr_iret dX0_isDue_39 (by first | exact trivial | rfl) ⟨rfl, by simp [letM, h1, h2', h5, bN]⟩
      · refine tr_iconst (v := nI 1) dX0_isDue_34 (by decide) ?_
        refine tr_goto (tgt := 39) dX0_isDue_35 (by decide) ?_
        -- at 39: .ireturn
        refine tr_iret dX0_isDue_39 (by first | exact trivial | rfl) ⟨rfl, by
          have : evM (c 1) 4 = true := decide_eq_true h2
          simp [letM, h1, this, h5, bN]⟩
theorem c_isReady (hB : isB a) (hr : BR μ a c) (hw : wfc c) (hi : i < c 18) : cp X (d + 2) kX0_isReady [.ref a, .int (nI i)] μ (qi (fun v μ' => μ' = μ ∧ v = nI (bN (rdyM c i)))) := by
  have hc := c_isDue (X := X) (d := d) hB hr hw hi
  obtain ⟨⟨i0, i1, i2, i3, i4⟩, s0, s1, s2, s3, s4⟩ := hB
  obtain ⟨r4, r5, r6, r7, r8, rr⟩ := hr
  have hw1 := hw.1
  obtain ⟨q1, q2, q3, q4⟩ := rr i hi
  obtain ⟨w1, w2, w3, w4⟩ := hw.2.2.2 i (by omega)
  refine cp_of ok_X0_isReady (L := [.ref a, .int (nI i)]) rfl ?_
  refine tr_aload_n dX0_isReady_0 rfl ?_
  refine tr_getR dX0_isReady_1 fg_RX0_15 (by first | assumption | decide) (by first | assumption | rfl) rfl (by omega) ?_
  refine tr_iload_n dX0_isReady_4 rfl ?_
  refine tr_iald dX0_isReady_5 (by first | assumption | decide) (by first | assumption | rfl) rfl (by omega) (by omega) (by first | assumption | rfl) ?_
  refine tr_aload_n dX0_isReady_6 rfl ?_
  refine tr_getR dX0_isReady_7 fg_RX0_18 (by first | assumption | decide) (by first | assumption | rfl) rfl (by omega) ?_
  refine tr_iload_n dX0_isReady_10 rfl ?_
  refine tr_iald dX0_isReady_11 (by first | assumption | decide) (by first | assumption | rfl) rfl (by omega) (by omega) (by first | assumption | rfl) ?_
  -- at 12: .if_icmp .eq 15
  refine tr_eqN (tgt := 27) dX0_isReady_12 (by decide) (by omega) (by omega) (fun h1 => ?_) (fun h1 => ?_)
  · refine tr_iconst (v := nI 0) dX0_isReady_27 (by decide) ?_
    -- at 28: .ireturn
    refine tr_iret dX0_isReady_28 (by first | exact trivial | rfl) ⟨rfl, by simp [rdyM, h1, bN]⟩
  · refine tr_aload_n dX0_isReady_15 rfl ?_
    refine tr_iload_n dX0_isReady_16 rfl ?_
    -- at 17: .invokevirtual 46
    refine tr_Vi (As := [_]) dX0_isReady_17 fm_RX0_46 rfl rfl (by first | assumption | decide) (by first | assumption | rfl) (Nat.le_of_ble_eq_true rfl) (hc) (fun v μ1 ⟨e1, e2⟩ => ?_)
    subst e1; subst e2
    refine tr_ifb0 (tgt := 27) dX0_isReady_20 (by decide) (fun h => ?_) (fun h => ?_)
    · refine tr_iconst (v := nI 0) dX0_isReady_27 (by decide) ?_
      -- at 28: .ireturn
      refine tr_iret dX0_isReady_28 (by first | exact trivial | rfl) ⟨rfl, by simp [rdyM, h1, h, bN]⟩
    · refine tr_iconst (v := nI 1) dX0_isReady_23 (by decide) ?_
      refine tr_goto (tgt := 28) dX0_isReady_24 (by decide) ?_
      -- at 28: .ireturn
      refine tr_iret dX0_isReady_28 (by first | exact trivial | rfl) ⟨rfl, by simp [rdyM, h1, h, bN]⟩
theorem c_skippedFrom {sh : Nat} (hsh : sh < 10) (hB : isB a) (hr : BR μ a c) (hw : wfc c) (hi : i < c 18) : cp X (d + 1) kX0_skippedFrom [.ref a, .int (nI sh), .int (nI i)] μ (qi (fun v μ' => μ' = μ ∧ v = nI (skM sh (c (11 + i)) (c (26 + i))))) := by
  obtain ⟨⟨i0, i1, i2, i3, i4⟩, s0, s1, s2, s3, s4⟩ := hB
  obtain ⟨r4, r5, r6, r7, r8, rr⟩ := hr
  have hw1 := hw.1
  obtain ⟨q1, q2, q3, q4⟩ := rr i hi
  obtain ⟨w1, w2, w3, w4⟩ := hw.2.2.2 i (by omega)
  refine cp_of ok_X0_skippedFrom (L := [.ref a, .int (nI sh), .int (nI i), .float 0]) rfl ?_
  refine tr_iload_n dX0_skippedFrom_0 rfl ?_
  refine tr_iconst (v := nI 1) dX0_skippedFrom_1 (by decide) ?_
  first | with_reducible refine tr_iaddN dX0_skippedFrom_2 ?_ | refine tr_iadd dX0_skippedFrom_2 ?_
  refine tr_bipush (v := nI 10) dX0_skippedFrom_3 (by decide) ?_
  first | with_reducible refine tr_iremN dX0_skippedFrom_5 (by omega) (by omega) (by omega) ?_ | refine tr_irem dX0_skippedFrom_5 (by decide) ?_
  refine tr_istore_n_3 dX0_skippedFrom_6 (by decide) rfl ?_
  refine tr_iload_n dX0_skippedFrom_7 rfl ?_
  refine tr_aload_n dX0_skippedFrom_8 rfl ?_
  refine tr_getR dX0_skippedFrom_9 fg_RX0_21 (by first | assumption | decide) (by first | assumption | rfl) rfl (by omega) ?_
  refine tr_iload_n dX0_skippedFrom_12 rfl ?_
  refine tr_iald dX0_skippedFrom_13 (by first | assumption | decide) (by first | assumption | rfl) rfl (by omega) (by omega) (by first | assumption | rfl) ?_
  -- at 14: .if_icmp .ne 27
  refine tr_neN (tgt := 41) dX0_skippedFrom_14 (by decide) (by omega) (by omega) (fun h1 => ?_) (fun h1 => ?_)
  · refine tr_iload_n dX0_skippedFrom_41 rfl ?_
    -- at 42: .ireturn
    refine tr_iret dX0_skippedFrom_42 (by first | exact trivial | rfl) ⟨rfl, by simp [skM, h1]⟩
  · refine tr_aload_n dX0_skippedFrom_17 rfl ?_
    refine tr_getR dX0_skippedFrom_18 fg_RX0_21 (by first | assumption | decide) (by first | assumption | rfl) rfl (by omega) ?_
    refine tr_iload_n dX0_skippedFrom_21 rfl ?_
    refine tr_iald dX0_skippedFrom_22 (by first | assumption | decide) (by first | assumption | rfl) rfl (by omega) (by omega) (by first | assumption | rfl) ?_
    refine tr_aload_n dX0_skippedFrom_23 rfl ?_
    refine tr_getR dX0_skippedFrom_24 fg_RX0_18 (by first | assumption | decide) (by first | assumption | rfl) rfl (by omega) ?_
    refine tr_iload_n dX0_skippedFrom_27 rfl ?_
    refine tr_iald dX0_skippedFrom_28 (by first | assumption | decide) (by first | assumption | rfl) rfl (by omega) (by omega) (by first | assumption | rfl) ?_
    -- at 29: .if_icmp .eq 12
    refine tr_eqN (tgt := 41) dX0_skippedFrom_29 (by decide) (by omega) (by omega) (fun h2 => ?_) (fun h2 => ?_)
    · refine tr_iload_n dX0_skippedFrom_41 rfl ?_
      -- at 42: .ireturn
      refine tr_iret dX0_skippedFrom_42 (by first | exact trivial | rfl) ⟨rfl, by simp [skM, h2]⟩
    · refine tr_iload_n dX0_skippedFrom_32 rfl ?_
      refine tr_iconst (v := nI 1) dX0_skippedFrom_33 (by decide) ?_
      first | with_reducible refine tr_iaddN dX0_skippedFrom_34 ?_ | refine tr_iadd dX0_skippedFrom_34 ?_
      refine tr_bipush (v := nI 10) dX0_skippedFrom_35 (by decide) ?_
      first | with_reducible refine tr_iremN dX0_skippedFrom_37 (by omega) (by omega) (by omega) ?_ | refine tr_irem dX0_skippedFrom_37 (by decide) ?_
      refine tr_goto (tgt := 42) dX0_skippedFrom_38 (by decide) ?_
      -- at 42: .ireturn
      refine tr_iret dX0_skippedFrom_42 (by first | exact trivial | rfl) ⟨rfl, by
        rw [skM, if_pos ⟨h1, h2⟩]
        congr 1
        omega⟩
end B1
