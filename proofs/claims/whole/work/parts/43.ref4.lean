-- ===== the reference: what a row of 33 numbers does =====
section M4
variable {X : Nat × (Nat → Int32)} {d : Nat} {μ : am_M} {σ : SG} {a b i j n : Nat} {c : NF} {r x y z w : Int32}
theorem r_lets {kd t : Nat} {am : Bool} (hk : kd < 6) : cp X (d + 1) kX8_lets [.int (nI kd), .int (nI t), .int (nI (bN am))] μ (qi (fun v μ' => μ' = μ ∧ v = nI (bN (letM kd t am)))) := by
  refine cp_of ok_X8_lets (L := [.int (nI kd), .int (nI t), .int (nI (bN am))]) rfl ?_
  refine tr_iload_n dX8_lets_0 rfl ?_
  refine tr_iconst (v := nI 1) dX8_lets_1 (by decide) ?_
  -- at 2: .if_icmp .ne 17
  refine tr_neN (tgt := 19) dX8_lets_2 (by decide) (by omega) (by omega) (fun h1 => ?_) (fun h1 => ?_)
  · refine tr_iload_n dX8_lets_19 rfl ?_
    refine tr_iconst (v := nI 4) dX8_lets_20 (by decide) ?_
    -- at 21: .if_icmp .ne 17
    refine tr_neN (tgt := 38) dX8_lets_21 (by decide) (by omega) (by omega) (fun h2 => ?_) (fun h2 => ?_)
    · refine tr_iconst (v := nI 1) dX8_lets_38 (by decide) ?_
      refine tr_goto (tgt := 43) dX8_lets_39 (by decide) ?_
      -- at 43: .ireturn
      refine tr_iret dX8_lets_43 (by first | exact trivial | rfl) ⟨rfl, by rw [letM, if_neg h1, if_neg h2]; rfl⟩
    · refine tr_iload_n dX8_lets_24 rfl ?_
      refine tr_iload_n dX8_lets_25 rfl ?_
      -- at 26: .ifCond .eq 7
      refine tr_ifb0 (tgt := 33) dX8_lets_26 (by decide) (fun h3 => ?_) (fun h3 => ?_)
      · subst h3
        refine tr_iconst (v := nI 2) dX8_lets_33 (by decide) ?_
        first | with_reducible refine tr_iremN dX8_lets_34 (by omega) (by omega) (by omega) ?_ | refine tr_irem dX8_lets_34 (by decide) ?_
        -- at 35: .ifCond .ne 7
        refine tr_if_ne (tgt := 42) dX8_lets_35 (by decide) (fun h4 => ?_) (fun h4 => ?_)
        · refine tr_iconst (v := nI 0) dX8_lets_42 (by decide) ?_
          -- at 43: .ireturn
          refine tr_iret dX8_lets_43 (by first | exact trivial | rfl) ⟨rfl, by rw [letM, if_neg h1, if_pos h2]; show nI 0 = nI (bN (evM t 2)); rw [evM, decide_eq_false h4]; rfl⟩
        · refine tr_iconst (v := nI 1) dX8_lets_38 (by decide) ?_
          refine tr_goto (tgt := 43) dX8_lets_39 (by decide) ?_
          -- at 43: .ireturn
          refine tr_iret dX8_lets_43 (by first | exact trivial | rfl) ⟨rfl, by rw [letM, if_neg h1, if_pos h2]; show nI 1 = nI (bN (evM t 2)); rw [evM, decide_eq_true h4]; rfl⟩
      · subst h3
        refine tr_iconst (v := nI 4) dX8_lets_29 (by decide) ?_
        refine tr_goto (tgt := 34) dX8_lets_30 (by decide) ?_
        first | with_reducible refine tr_iremN dX8_lets_34 (by omega) (by omega) (by omega) ?_ | refine tr_irem dX8_lets_34 (by decide) ?_
        -- at 35: .ifCond .ne 7
        refine tr_if_ne (tgt := 42) dX8_lets_35 (by decide) (fun h4 => ?_) (fun h4 => ?_)
        · refine tr_iconst (v := nI 0) dX8_lets_42 (by decide) ?_
          -- at 43: .ireturn
          refine tr_iret dX8_lets_43 (by first | exact trivial | rfl) ⟨rfl, by rw [letM, if_neg h1, if_pos h2]; show nI 0 = nI (bN (evM t 4)); rw [evM, decide_eq_false h4]; rfl⟩
        · refine tr_iconst (v := nI 1) dX8_lets_38 (by decide) ?_
          refine tr_goto (tgt := 43) dX8_lets_39 (by decide) ?_
          -- at 43: .ireturn
          refine tr_iret dX8_lets_43 (by first | exact trivial | rfl) ⟨rfl, by rw [letM, if_neg h1, if_pos h2]; show nI 1 = nI (bN (evM t 4)); rw [evM, decide_eq_true h4]; rfl⟩
  · refine tr_iload_n dX8_lets_5 rfl ?_
    refine tr_iconst (v := nI 2) dX8_lets_6 (by decide) ?_
    first | with_reducible refine tr_iremN dX8_lets_7 (by omega) (by omega) (by omega) ?_ | refine tr_irem dX8_lets_7 (by decide) ?_
    -- at 8: .ifCond .ne 7
    refine tr_if_ne (tgt := 15) dX8_lets_8 (by decide) (fun h4 => ?_) (fun h4 => ?_)
    · refine tr_iconst (v := nI 0) dX8_lets_15 (by decide) ?_
      refine tr_goto (tgt := 43) dX8_lets_16 (by decide) ?_
      -- at 43: .ireturn
      refine tr_iret dX8_lets_43 (by first | exact trivial | rfl) ⟨rfl, by rw [letM, if_pos h1, evM, decide_eq_false h4]; rfl⟩
    · refine tr_iconst (v := nI 1) dX8_lets_11 (by decide) ?_
      refine tr_goto (tgt := 43) dX8_lets_12 (by decide) ?_
      -- at 43: .ireturn
      refine tr_iret dX8_lets_43 (by first | exact trivial | rfl) ⟨rfl, by rw [letM, if_pos h1, evM, decide_eq_true h4]; rfl⟩
theorem r_isReady (hA : isA a) (hr : MR μ a c) (hw : wfc c) (hi : i < 7) : cp X (d + 2) kX8_isReady [.ref a, .int (nI i)] μ (qi (fun v μ' => μ' = μ ∧ v = nI (bN (rdyM c i)))) := by
  obtain ⟨i0, s0⟩ := hA
  have k4 := hr (4 + i) (by omega)
  have k11 := hr (11 + i) (by omega)
  have k19 := hr (19 + i) (by omega)
  have k26 := hr (26 + i) (by omega)
  have k1 := hr 1 (by omega)
  obtain ⟨w4, w11, w19, w26⟩ := hw.2.2.2 i hi
  refine cp_of ok_X8_isReady (L := [.ref a, .int (nI i)]) rfl ?_
  refine tr_aload_n dX8_isReady_0 rfl ?_
  refine tr_iconst (v := nI 4) dX8_isReady_1 (by decide) ?_
  refine tr_iload_n dX8_isReady_2 rfl ?_
  first | with_reducible refine tr_iaddN dX8_isReady_3 ?_ | refine tr_iadd dX8_isReady_3 ?_
  refine tr_iald dX8_isReady_4 (by first | assumption | decide) (by first | assumption | rfl) rfl (by omega) (by omega) (by first | assumption | rfl) ?_
  refine tr_aload_n dX8_isReady_5 rfl ?_
  refine tr_bipush (v := nI 11) dX8_isReady_6 (by decide) ?_
  refine tr_iload_n dX8_isReady_8 rfl ?_
  first | with_reducible refine tr_iaddN dX8_isReady_9 ?_ | refine tr_iadd dX8_isReady_9 ?_
  refine tr_iald dX8_isReady_10 (by first | assumption | decide) (by first | assumption | rfl) rfl (by omega) (by omega) (by first | assumption | rfl) ?_
  -- at 11: .if_icmp .eq 41
  refine tr_eqN (tgt := 52) dX8_isReady_11 (by decide) (by omega) (by omega) (fun h1 => ?_) (fun h1 => ?_)
  · refine tr_iconst (v := nI 0) dX8_isReady_52 (by decide) ?_
    -- at 53: .ireturn
    refine tr_iret dX8_isReady_53 (by first | exact trivial | rfl) ⟨rfl, by rw [rdyM, decide_eq_false (fun q => q h1)]; rfl⟩
  · have key : ∀ am : Bool, tw X (d + 1) kX8_isReady (qi (fun v μ' => μ' = μ ∧ v = nI (bN (letM (c (19 + i)) (c 1) am)))) 42 [.ref a, .int (nI i)] [.int (nI (bN am)), .int (nI (c 1)), .int (nI (c (19 + i)))] μ := by
      intro am
      refine tr_Si (As := [_, _, _]) dX8_isReady_42 fm_RX8_118 rfl rfl (Nat.le_of_ble_eq_true rfl) (r_lets (d := d) w19) (fun v μ1 ⟨e1, e2⟩ => ?_)
      subst μ1; subst v
      refine tr_ifb0 (tgt := 52) dX8_isReady_45 (by decide) (fun h2 => ?_) (fun h2 => ?_)
      · refine tr_iconst (v := nI 0) dX8_isReady_52 (by decide) ?_
        -- at 53: .ireturn
        refine tr_iret dX8_isReady_53 (by first | exact trivial | rfl) ⟨rfl, by rw [h2]; rfl⟩
      · refine tr_iconst (v := nI 1) dX8_isReady_48 (by decide) ?_
        refine tr_goto (tgt := 53) dX8_isReady_49 (by decide) ?_
        -- at 53: .ireturn
        refine tr_iret dX8_isReady_53 (by first | exact trivial | rfl) ⟨rfl, by rw [h2]; rfl⟩
    have eb : rdyM c i = letM (c (19 + i)) (c 1) (decide (c (4 + i) = c (26 + i))) := by
      rw [rdyM, decide_eq_true h1, Bool.true_and]
    rw [eb]
    refine tr_aload_n dX8_isReady_14 rfl ?_
    refine tr_bipush (v := nI 19) dX8_isReady_15 (by decide) ?_
    refine tr_iload_n dX8_isReady_17 rfl ?_
    first | with_reducible refine tr_iaddN dX8_isReady_18 ?_ | refine tr_iadd dX8_isReady_18 ?_
    refine tr_iald dX8_isReady_19 (by first | assumption | decide) (by first | assumption | rfl) rfl (by omega) (by omega) (by first | assumption | rfl) ?_
    refine tr_aload_n dX8_isReady_20 rfl ?_
    refine tr_iconst (v := nI 1) dX8_isReady_21 (by decide) ?_
    refine tr_iald dX8_isReady_22 (by first | assumption | decide) (by first | assumption | rfl) rfl (by omega) (by omega) (by first | assumption | rfl) ?_
    refine tr_aload_n dX8_isReady_23 rfl ?_
    refine tr_iconst (v := nI 4) dX8_isReady_24 (by decide) ?_
    refine tr_iload_n dX8_isReady_25 rfl ?_
    first | with_reducible refine tr_iaddN dX8_isReady_26 ?_ | refine tr_iadd dX8_isReady_26 ?_
    refine tr_iald dX8_isReady_27 (by first | assumption | decide) (by first | assumption | rfl) rfl (by omega) (by omega) (by first | assumption | rfl) ?_
    refine tr_aload_n dX8_isReady_28 rfl ?_
    refine tr_bipush (v := nI 26) dX8_isReady_29 (by decide) ?_
    refine tr_iload_n dX8_isReady_31 rfl ?_
    first | with_reducible refine tr_iaddN dX8_isReady_32 ?_ | refine tr_iadd dX8_isReady_32 ?_
    refine tr_iald dX8_isReady_33 (by first | assumption | decide) (by first | assumption | rfl) rfl (by omega) (by omega) (by first | assumption | rfl) ?_
    -- at 34: .if_icmp .ne 7
    refine tr_neN (tgt := 41) dX8_isReady_34 (by decide) (by omega) (by omega) (fun h3 => ?_) (fun h3 => ?_)
    · rw [decide_eq_false h3]
      refine tr_iconst (v := nI 0) dX8_isReady_41 (by decide) ?_
      -- at 42: .invokestatic 118
      exact key false
    · rw [decide_eq_true h3]
      refine tr_iconst (v := nI 1) dX8_isReady_37 (by decide) ?_
      refine tr_goto (tgt := 42) dX8_isReady_38 (by decide) ?_
      -- at 42: .invokestatic 118
      exact key true
theorem r_next (hA : isA a) (hr : MR μ a c) (hw : wfc c) (hi : i < 7) : cp X (d + 3) kX8_next [.ref a, .int (nI i)] μ (qi (fun v μ' => μ' = μ ∧ v = nI (nxM c i))) := by
  obtain ⟨i0, s0⟩ := hA
  have k4 := hr (4 + i) (by omega)
  have k11 := hr (11 + i) (by omega)
  have k19 := hr (19 + i) (by omega)
  have k26 := hr (26 + i) (by omega)
  obtain ⟨w4, w11, w19, w26⟩ := hw.2.2.2 i hi
  refine cp_of ok_X8_next (L := [.ref a, .int (nI i)]) rfl ?_
  refine tr_aload_n dX8_next_0 rfl ?_
  refine tr_bipush (v := nI 19) dX8_next_1 (by decide) ?_
  refine tr_iload_n dX8_next_3 rfl ?_
  first | with_reducible refine tr_iaddN dX8_next_4 ?_ | refine tr_iadd dX8_next_4 ?_
  refine tr_iald dX8_next_5 (by first | assumption | decide) (by first | assumption | rfl) rfl (by omega) (by omega) (by first | assumption | rfl) ?_
  refine tr_aload_n dX8_next_6 rfl ?_
  refine tr_iconst (v := nI 4) dX8_next_7 (by decide) ?_
  refine tr_iload_n dX8_next_8 rfl ?_
  first | with_reducible refine tr_iaddN dX8_next_9 ?_ | refine tr_iadd dX8_next_9 ?_
  refine tr_iald dX8_next_10 (by first | assumption | decide) (by first | assumption | rfl) rfl (by omega) (by omega) (by first | assumption | rfl) ?_
  refine tr_aload_n dX8_next_11 rfl ?_
  refine tr_bipush (v := nI 11) dX8_next_12 (by decide) ?_
  refine tr_iload_n dX8_next_14 rfl ?_
  first | with_reducible refine tr_iaddN dX8_next_15 ?_ | refine tr_iadd dX8_next_15 ?_
  refine tr_iald dX8_next_16 (by first | assumption | decide) (by first | assumption | rfl) rfl (by omega) (by omega) (by first | assumption | rfl) ?_
  refine tr_aload_n dX8_next_17 rfl ?_
  refine tr_bipush (v := nI 26) dX8_next_18 (by decide) ?_
  refine tr_iload_n dX8_next_20 rfl ?_
  first | with_reducible refine tr_iaddN dX8_next_21 ?_ | refine tr_iadd dX8_next_21 ?_
  refine tr_iald dX8_next_22 (by first | assumption | decide) (by first | assumption | rfl) rfl (by omega) (by omega) (by first | assumption | rfl) ?_
  -- at 23: .invokestatic 122
  refine tr_Si (As := [_, _, _, _]) dX8_next_23 fm_RX8_122 rfl rfl (Nat.le_of_ble_eq_true rfl) (r_turned (d := d) w19 w4 w11 w26) (fun v μ1 ⟨e1, e2⟩ => ?_)
  subst μ1; subst v
  refine tr_iret dX8_next_26 (by first | exact trivial | rfl) ⟨rfl, rfl⟩
theorem l_goes (hA : isA a) : ∀ (m i n : Nat) (c : NF) (μ : am_M), i + m = c 18 → n ≤ i → wfc c → MR μ a c → tw X (d + 3) kX8_goes (qi (fun v μ' => same μ μ' [a] ∧ MR μ' a (nu (nu (goM m i n c).1 1 (c 1 + 1)) 2 (c 2 + (goM m i n c).2)) ∧ v = nI (goM m i n c).2)) 4 [.ref a, .int (nI n), .int (nI i)] [] μ
  | m, i, n, c, μ, him, hni, hw, hr => by
    have hA' := hA
    obtain ⟨i0, s0⟩ := hA
    have h7 := hw.1
    have h9 := hw.2.1
    have k18 := hr 18 (by omega)
    have k0 := hr 0 (by omega)
    have k1 := hr 1 (by omega)
    have k2 := hr 2 (by omega)
    have k3 := hr 3 (by omega)
    have hfin : goM m i n c = (c, n) → tw X (d + 3) kX8_goes (qi (fun v μ' => same μ μ' [a] ∧ MR μ' a (nu (nu (goM m i n c).1 1 (c 1 + 1)) 2 (c 2 + (goM m i n c).2)) ∧ v = nI (goM m i n c).2)) 56 [.ref a, .int (nI n), .int (nI i)] [] μ := by
      intro e
      rw [e]
      refine tr_aload_n dX8_goes_56 rfl ?_
      refine tr_iconst (v := nI 1) dX8_goes_57 (by decide) ?_
      refine tr_dup2 dX8_goes_58 rfl rfl ?_
      refine tr_iald dX8_goes_59 (by first | assumption | decide) (by first | assumption | rfl) rfl (by omega) (by omega) (by first | assumption | rfl) ?_
      refine tr_iconst (v := nI 1) dX8_goes_60 (by decide) ?_
      first | with_reducible refine tr_iaddN dX8_goes_61 ?_ | refine tr_iadd dX8_goes_61 ?_
      refine tr_iast dX8_goes_62 (by first | assumption | decide) (by first | assumption | rfl) rfl (by omega) (by omega) ?_
      -- at 63: .aload_n 0
      have hr2 := hr.set 1 (c 1 + 1)
      have hs2 := (same.rf μ [a]).put (a := a) (upd (μ.1 a) 1 (nI (c 1 + 1))) (by simp)
      generalize sI μ a (upd (μ.1 a) 1 (nI (c 1 + 1))) = μ2 at hr2 hs2 ⊢
      have k2 := hr2 2 (by omega)
      rw [nu_n _ _ (by omega)] at k2
      refine tr_aload_n dX8_goes_63 rfl ?_
      refine tr_iconst (v := nI 2) dX8_goes_64 (by decide) ?_
      refine tr_dup2 dX8_goes_65 rfl rfl ?_
      refine tr_iald dX8_goes_66 (by first | assumption | decide) (by first | assumption | rfl) rfl (by omega) (by omega) (by first | assumption | rfl) ?_
      refine tr_iload_n dX8_goes_67 rfl ?_
      first | with_reducible refine tr_iaddN dX8_goes_68 ?_ | refine tr_iadd dX8_goes_68 ?_
      refine tr_iast dX8_goes_69 (by first | assumption | decide) (by first | assumption | rfl) rfl (by omega) (by omega) ?_
      -- at 70: .iload_n 1
      have hr3 := hr2.set 2 (c 2 + n)
      have hs3 := hs2.put (a := a) (upd (μ2.1 a) 2 (nI (c 2 + n))) (by simp)
      generalize sI μ2 a (upd (μ2.1 a) 2 (nI (c 2 + n))) = μ3 at hr3 hs3 ⊢
      refine tr_iload_n dX8_goes_70 rfl ?_
      -- at 71: .ireturn
      refine tr_iret dX8_goes_71 (by first | exact trivial | rfl) ⟨hs3, hr3, rfl⟩
    refine tr_iload_n dX8_goes_4 rfl ?_
    refine tr_aload_n dX8_goes_5 rfl ?_
    refine tr_bipush (v := nI 18) dX8_goes_6 (by decide) ?_
    refine tr_iald dX8_goes_8 (by first | assumption | decide) (by first | assumption | rfl) rfl (by omega) (by omega) (by first | assumption | rfl) ?_
    -- at 9: .if_icmp .ge 47
    refine tr_geN (tgt := 56) dX8_goes_9 (by decide) (by omega) (by omega) (fun h1 => ?_) (fun h1 => ?_)
    · obtain rfl : m = 0 := by omega
      exact hfin rfl
    · obtain ⟨m', rfl⟩ : ∃ m', m = m' + 1 := ⟨m - 1, by omega⟩
      refine tr_iload_n dX8_goes_12 rfl ?_
      refine tr_aload_n dX8_goes_13 rfl ?_
      refine tr_iconst (v := nI 0) dX8_goes_14 (by decide) ?_
      refine tr_iald dX8_goes_15 (by first | assumption | decide) (by first | assumption | rfl) rfl (by omega) (by omega) (by first | assumption | rfl) ?_
      -- at 16: .if_icmp .ge 40
      refine tr_geN (tgt := 56) dX8_goes_16 (by decide) (by omega) (by omega) (fun h2 => ?_) (fun h2 => ?_)
      · exact hfin (by rw [goM, if_neg (by omega)])
      · have hi7 : i < 7 := by omega
        have hskip : (rdyM c i && !jmM c i) = false → tw X (d + 3) kX8_goes (qi (fun v μ' => same μ μ' [a] ∧ MR μ' a (nu (nu (goM (m' + 1) i n c).1 1 (c 1 + 1)) 2 (c 2 + (goM (m' + 1) i n c).2)) ∧ v = nI (goM (m' + 1) i n c).2)) 50 [.ref a, .int (nI n), .int (nI i)] [] μ := by
          intro e
          have e2 : goM (m' + 1) i n c = goM m' (i + 1) n c := by rw [goM, if_pos h2, e]; rfl
          rw [e2]
          first | with_reducible refine tr_iincN_2 dX8_goes_50 (by decide) rfl ?_ | refine tr_iinc_2 dX8_goes_50 (by decide) rfl ?_
          refine tr_goto (tgt := 4) dX8_goes_53 (by decide) ?_
          -- at 4: .iload_n 2
          exact l_goes hA' m' (i + 1) n c μ (by omega) (by omega) hw hr
        refine tr_aload_n dX8_goes_19 rfl ?_
        refine tr_iload_n dX8_goes_20 rfl ?_
        -- at 21: .invokestatic 129
        refine tr_Si (As := [_, _]) dX8_goes_21 fm_RX8_129 rfl rfl (Nat.le_of_ble_eq_true rfl) (r_isReady (d := d + 1) hA' hr hw hi7) (fun v μ1 ⟨e1, e2⟩ => ?_)
        subst μ1; subst v
        refine tr_ifb0 (tgt := 50) dX8_goes_24 (by decide) (fun h3 => ?_) (fun h3 => ?_)
        · exact hskip (by rw [h3]; rfl)
        · refine tr_aload_n dX8_goes_27 rfl ?_
          refine tr_iconst (v := nI 3) dX8_goes_28 (by decide) ?_
          refine tr_iald dX8_goes_29 (by first | assumption | decide) (by first | assumption | rfl) rfl (by omega) (by omega) (by first | assumption | rfl) ?_
          refine tr_iload_n dX8_goes_30 rfl ?_
          -- at 31: .invokestatic 137
          refine tr_Si (As := [_, _]) dX8_goes_31 fm_RX8_137 rfl rfl (Nat.le_of_ble_eq_true rfl) (r_has (d := d + 2) hw.jam hi7) (fun v μ1 ⟨e1, e2⟩ => ?_)
          subst μ1; subst v
          refine tr_ifb1 (tgt := 50) dX8_goes_34 (by decide) (fun h4 => ?_) (fun h4 => ?_)
          · exact hskip (by rw [h3, show jmM c i = true from h4]; rfl)
          · refine tr_aload_n dX8_goes_37 rfl ?_
            refine tr_iconst (v := nI 4) dX8_goes_38 (by decide) ?_
            refine tr_iload_n dX8_goes_39 rfl ?_
            first | with_reducible refine tr_iaddN dX8_goes_40 ?_ | refine tr_iadd dX8_goes_40 ?_
            refine tr_aload_n dX8_goes_41 rfl ?_
            refine tr_iload_n dX8_goes_42 rfl ?_
            -- at 43: .invokestatic 133
            refine tr_Si (As := [_, _]) dX8_goes_43 fm_RX8_133 rfl rfl (Nat.le_of_ble_eq_true rfl) (r_next (d := d) hA' hr hw hi7) (fun v μ1 ⟨e1, e2⟩ => ?_)
            subst μ1; subst v
            refine tr_iast dX8_goes_46 (by first | assumption | decide) (by first | assumption | rfl) rfl (by omega) (by omega) ?_
            -- at 47: .iinc 1 1
            have e2 : goM (m' + 1) i n c = goM m' (i + 1) (n + 1) (nu c (4 + i) (nxM c i)) := by rw [goM, if_pos h2, h3, show jmM c i = false from h4]; rfl
            rw [e2]
            have hr2 := hr.set (4 + i) (nxM c i)
            have hs2 := (same.rf μ [a]).put (a := a) (upd (μ.1 a) (4 + i) (nI (nxM c i))) (by simp)
            generalize sI μ a (upd (μ.1 a) (4 + i) (nI (nxM c i))) = μ2 at hr2 hs2 ⊢
            first | with_reducible refine tr_iincN_1 dX8_goes_47 (by decide) rfl ?_ | refine tr_iinc_1 dX8_goes_47 (by decide) rfl ?_
            first | with_reducible refine tr_iincN_2 dX8_goes_50 (by decide) rfl ?_ | refine tr_iinc_2 dX8_goes_50 (by decide) rfl ?_
            refine tr_goto (tgt := 4) dX8_goes_53 (by decide) ?_
            -- at 4: .iload_n 2
            have key := l_goes hA' m' (i + 1) (n + 1) (nu c (4 + i) (nxM c i)) μ2 (by rw [nu_n _ _ (by omega)]; omega) (by omega) (hw.show hi7 (trnM_lt _ _ _ _)) hr2
            rw [nu_n (j := 1) _ _ (by omega), nu_n (j := 2) _ _ (by omega)] at key
            exact tw_mono key (fun r μ' ⟨v, q1, q2, q3⟩ => ⟨v, q1, hs2.trans q2, q3⟩)
  termination_by m => m
theorem r_goes (hA : isA a) (hr : MR μ a c) (hw : wfc c) : cp X (d + 4) kX8_goes [.ref a] μ (qi (fun v μ' => same μ μ' [a] ∧ MR μ' a (goC c) ∧ v = nI (goN c))) := by
  refine cp_of ok_X8_goes (L := [.ref a, .float 0, .float 0]) rfl ?_
  refine tr_iconst (v := nI 0) dX8_goes_0 (by decide) ?_
  refine tr_istore_n_1 dX8_goes_1 (by decide) rfl ?_
  refine tr_iconst (v := nI 0) dX8_goes_2 (by decide) ?_
  refine tr_istore_n_2 dX8_goes_3 (by decide) rfl ?_
  -- at 4: .iload_n 2
  exact l_goes hA (c 18) 0 0 c μ (by omega) (by omega) hw hr
theorem r_shown (hA : isA a) (hr : MR μ a c) (hw : wfc c) : cp X (d + 1) kX8_shown [.ref a] μ (qi (fun v μ' => μ' = μ ∧ v = nI (numM c (c 18)))) := by
  obtain ⟨i0, s0⟩ := hA
  have h7 := hw.1
  have k18 := hr 18 (by omega)
  refine cp_of ok_X8_shown (L := [.ref a, .float 0, .float 0]) rfl ?_
  refine tr_iconst (v := nI 0) dX8_shown_0 (by decide) ?_
  refine tr_istore_n_1 dX8_shown_1 (by decide) rfl ?_
  refine tr_iconst (v := nI 0) dX8_shown_2 (by decide) ?_
  refine tr_istore_n_2 dX8_shown_3 (by decide) rfl ?_
  -- at 4: .iload_n 2
  refine tw_for (n := c 18) (Lf := fun k => [.ref a, .int (nI (numM c k)), .int (nI k)]) (P := fun k μ1 => μ1 = μ) (fun k μ1 hk hP ih => ?_) (fun μ1 hP => ?_) 0 _ (by omega) rfl
  · subst hP
    have k4 := hr (4 + k) (by omega)
    refine tr_iload_n dX8_shown_4 rfl ?_
    refine tr_aload_n dX8_shown_5 rfl ?_
    refine tr_bipush (v := nI 18) dX8_shown_6 (by decide) ?_
    refine tr_iald dX8_shown_8 (by first | assumption | decide) (by first | assumption | rfl) rfl (by omega) (by omega) (by first | assumption | rfl) ?_
    -- at 9: .if_icmp .ge 20
    refine tr_geN (tgt := 29) dX8_shown_9 (by decide) (by omega) (by omega) (fun h1 => ?_) (fun h1 => ?_)
    · omega
    · refine tr_bipush (v := nI 10) dX8_shown_12 (by decide) ?_
      refine tr_iload_n dX8_shown_14 rfl ?_
      first | with_reducible refine tr_imulN dX8_shown_15 ?_ | refine tr_imul dX8_shown_15 ?_
      refine tr_aload_n dX8_shown_16 rfl ?_
      refine tr_iconst (v := nI 4) dX8_shown_17 (by decide) ?_
      refine tr_iload_n dX8_shown_18 rfl ?_
      first | with_reducible refine tr_iaddN dX8_shown_19 ?_ | refine tr_iadd dX8_shown_19 ?_
      refine tr_iald dX8_shown_20 (by first | assumption | decide) (by first | assumption | rfl) rfl (by omega) (by omega) (by first | assumption | rfl) ?_
      first | with_reducible refine tr_iaddN dX8_shown_21 ?_ | refine tr_iadd dX8_shown_21 ?_
      -- at 22: .istore_n 1
      refine tr_v (y := nI (numM c (k + 1))) (by rw [numM, Nat.mul_comm]) ?_
      refine tr_istore_n_1 dX8_shown_22 (by decide) rfl ?_
      first | with_reducible refine tr_iincN_2 dX8_shown_23 (by decide) rfl ?_ | refine tr_iinc_2 dX8_shown_23 (by decide) rfl ?_
      refine tr_goto (tgt := 4) dX8_shown_26 (by decide) ?_
      -- at 4: .iload_n 2
      exact ih _ rfl
  · subst hP
    refine tr_iload_n dX8_shown_4 rfl ?_
    refine tr_aload_n dX8_shown_5 rfl ?_
    refine tr_bipush (v := nI 18) dX8_shown_6 (by decide) ?_
    refine tr_iald dX8_shown_8 (by first | assumption | decide) (by first | assumption | rfl) rfl (by omega) (by omega) (by first | assumption | rfl) ?_
    -- at 9: .if_icmp .ge 20
    refine tr_geN (tgt := 29) dX8_shown_9 (by decide) (by omega) (by omega) (fun h1 => ?_) (fun h1 => ?_)
    · refine tr_iload_n dX8_shown_29 rfl ?_
      -- at 30: .ireturn
      refine tr_iret dX8_shown_30 (by first | exact trivial | rfl) ⟨rfl, rfl⟩
    · omega
theorem r_right (hA : isA a) (hr : MR μ a c) (hw : wfc c) : cp X (d + 1) kX8_right [.ref a] μ (qi (fun v μ' => μ' = μ ∧ v = nI (rtM c (c 18)))) := by
  obtain ⟨i0, s0⟩ := hA
  have h7 := hw.1
  have k18 := hr 18 (by omega)
  refine cp_of ok_X8_right (L := [.ref a, .float 0, .float 0]) rfl ?_
  refine tr_iconst (v := nI 0) dX8_right_0 (by decide) ?_
  refine tr_istore_n_1 dX8_right_1 (by decide) rfl ?_
  refine tr_iconst (v := nI 0) dX8_right_2 (by decide) ?_
  refine tr_istore_n_2 dX8_right_3 (by decide) rfl ?_
  -- at 4: .iload_n 2
  refine tw_for (n := c 18) (Lf := fun k => [.ref a, .int (nI (rtM c k)), .int (nI k)]) (P := fun k μ1 => μ1 = μ) (fun k μ1 hk hP ih => ?_) (fun μ1 hP => ?_) 0 _ (by omega) rfl
  · subst hP
    have k4 := hr (4 + k) (by omega)
    have k11 := hr (11 + k) (by omega)
    obtain ⟨w4, w11, w19, w26⟩ := hw.2.2.2 k (by omega)
    refine tr_iload_n dX8_right_4 rfl ?_
    refine tr_aload_n dX8_right_5 rfl ?_
    refine tr_bipush (v := nI 18) dX8_right_6 (by decide) ?_
    refine tr_iald dX8_right_8 (by first | assumption | decide) (by first | assumption | rfl) rfl (by omega) (by omega) (by first | assumption | rfl) ?_
    -- at 9: .if_icmp .ge 33
    refine tr_geN (tgt := 42) dX8_right_9 (by decide) (by omega) (by omega) (fun h1 => ?_) (fun h1 => ?_)
    · omega
    · refine tr_iload_n dX8_right_12 rfl ?_
      refine tr_aload_n dX8_right_13 rfl ?_
      refine tr_iconst (v := nI 4) dX8_right_14 (by decide) ?_
      refine tr_iload_n dX8_right_15 rfl ?_
      first | with_reducible refine tr_iaddN dX8_right_16 ?_ | refine tr_iadd dX8_right_16 ?_
      refine tr_iald dX8_right_17 (by first | assumption | decide) (by first | assumption | rfl) rfl (by omega) (by omega) (by first | assumption | rfl) ?_
      refine tr_aload_n dX8_right_18 rfl ?_
      refine tr_bipush (v := nI 11) dX8_right_19 (by decide) ?_
      refine tr_iload_n dX8_right_21 rfl ?_
      first | with_reducible refine tr_iaddN dX8_right_22 ?_ | refine tr_iadd dX8_right_22 ?_
      refine tr_iald dX8_right_23 (by first | assumption | decide) (by first | assumption | rfl) rfl (by omega) (by omega) (by first | assumption | rfl) ?_
      -- at 24: .if_icmp .ne 9
      refine tr_neN (tgt := 33) dX8_right_24 (by decide) (by omega) (by omega) (fun h2 => ?_) (fun h2 => ?_)
      · refine tr_iconst (v := nI 0) dX8_right_33 (by decide) ?_
        refine tr_ior dX8_right_34 ?_
        -- at 35: .istore_n 1
        refine tr_v (y := nI (rtM c (k + 1))) (by rw [rtM, if_neg h2, Nat.add_zero]; show nI (rtM c k) ||| 0 = _; exact Int32.or_zero) ?_
        refine tr_istore_n_1 dX8_right_35 (by decide) rfl ?_
        first | with_reducible refine tr_iincN_2 dX8_right_36 (by decide) rfl ?_ | refine tr_iinc_2 dX8_right_36 (by decide) rfl ?_
        refine tr_goto (tgt := 4) dX8_right_39 (by decide) ?_
        -- at 4: .iload_n 2
        exact ih _ rfl
      · refine tr_iconst (v := nI 1) dX8_right_27 (by decide) ?_
        refine tr_iload_n dX8_right_28 rfl ?_
        refine tr_ishl dX8_right_29 ?_
        refine tr_goto (tgt := 34) dX8_right_30 (by decide) ?_
        refine tr_ior dX8_right_34 ?_
        -- at 35: .istore_n 1
        refine tr_v (y := nI (rtM c (k + 1))) (by rw [rtM, if_pos h2]; exact or_bit k (by omega) _ (rtM_lt c k)) ?_
        refine tr_istore_n_1 dX8_right_35 (by decide) rfl ?_
        first | with_reducible refine tr_iincN_2 dX8_right_36 (by decide) rfl ?_ | refine tr_iinc_2 dX8_right_36 (by decide) rfl ?_
        refine tr_goto (tgt := 4) dX8_right_39 (by decide) ?_
        -- at 4: .iload_n 2
        exact ih _ rfl
  · subst hP
    refine tr_iload_n dX8_right_4 rfl ?_
    refine tr_aload_n dX8_right_5 rfl ?_
    refine tr_bipush (v := nI 18) dX8_right_6 (by decide) ?_
    refine tr_iald dX8_right_8 (by first | assumption | decide) (by first | assumption | rfl) rfl (by omega) (by omega) (by first | assumption | rfl) ?_
    -- at 9: .if_icmp .ge 33
    refine tr_geN (tgt := 42) dX8_right_9 (by decide) (by omega) (by omega) (fun h1 => ?_) (fun h1 => ?_)
    · refine tr_iload_n dX8_right_42 rfl ?_
      -- at 43: .ireturn
      refine tr_iret dX8_right_43 (by first | exact trivial | rfl) ⟨rfl, rfl⟩
    · omega
theorem rtM_all (c : NF) : ∀ n, rtM c n = 2 ^ n - 1 ↔ ∀ i, i < n → c (4 + i) = c (11 + i)
  | 0 => by simp [rtM]
  | n + 1 => by
    have h1 := rtM_lt c n
    have ih := rtM_all c n
    have hp : 2 ^ (n + 1) = 2 ^ n + 2 ^ n := by rw [Nat.pow_succ]; omega
    rw [rtM]
    constructor
    · intro h i hi
      by_cases e : c (4 + n) = c (11 + n)
      · rw [if_pos e] at h
        by_cases e2 : i = n
        · subst e2; exact e
        · exact ih.mp (by omega) i (by omega)
      · rw [if_neg e] at h
        omega
    · intro h
      rw [if_pos (h n (by omega))]
      have := ih.mpr (fun i hi => h i (by omega))
      omega
theorem r_isTold (hA : isA a) (hr : MR μ a c) (hw : wfc c) : cp X (d + 2) kX8_isTold [.ref a] μ (qi (fun v μ' => μ' = μ ∧ v = nI (bN (toldM c)))) := by
  have hA' := hA
  obtain ⟨i0, s0⟩ := hA
  have h7 := hw.1
  have k18 := hr 18 (by omega)
  have hp := pow2_le h7
  have hp1 : 0 < 2 ^ c 18 := Nat.two_pow_pos _
  have hl := rtM_lt c (c 18)
  refine cp_of ok_X8_isTold (L := [.ref a]) rfl ?_
  refine tr_aload_n dX8_isTold_0 rfl ?_
  -- at 1: .invokestatic 160
  refine tr_Si (As := [_]) dX8_isTold_1 fm_RX8_160 rfl rfl (Nat.le_of_ble_eq_true rfl) (r_right (d := d) hA' hr hw) (fun v μ1 ⟨e1, e2⟩ => ?_)
  subst μ1; subst v
  refine tr_iconst (v := nI 1) dX8_isTold_4 (by decide) ?_
  refine tr_aload_n dX8_isTold_5 rfl ?_
  refine tr_bipush (v := nI 18) dX8_isTold_6 (by decide) ?_
  refine tr_iald dX8_isTold_8 (by first | assumption | decide) (by first | assumption | rfl) rfl (by omega) (by omega) (by first | assumption | rfl) ?_
  refine tr_ishl dX8_isTold_9 ?_
  -- at 10: .iconst 1
  refine tr_v (sh1 _ (by omega)) ?_
  refine tr_iconst (v := nI 1) dX8_isTold_10 (by decide) ?_
  first | with_reducible refine tr_isubN dX8_isTold_11 (by omega) ?_ | refine tr_isub dX8_isTold_11 ?_
  -- at 12: .if_icmp .ne 7
  refine tr_neN (tgt := 19) dX8_isTold_12 (by decide) (by omega) (by omega) (fun h1 => ?_) (fun h1 => ?_)
  · refine tr_iconst (v := nI 0) dX8_isTold_19 (by decide) ?_
    -- at 20: .ireturn
    refine tr_iret dX8_isTold_20 (by first | exact trivial | rfl) ⟨rfl, by rw [toldM, decide_eq_false (fun q => h1 ((rtM_all c _).mpr q))]; rfl⟩
  · refine tr_iconst (v := nI 1) dX8_isTold_15 (by decide) ?_
    refine tr_goto (tgt := 20) dX8_isTold_16 (by decide) ?_
    -- at 20: .ireturn
    refine tr_iret dX8_isTold_20 (by first | exact trivial | rfl) ⟨rfl, by rw [toldM, decide_eq_true ((rtM_all c _).mp h1)]; rfl⟩
theorem l_told (hA : isA a) : ∀ (m t : Nat) (c : NF) (μ : am_M), t + m = 61 → wfc c → MR μ a c → tw X (d + 4) kX8_told (qi (fun v μ' => same μ μ' [a] ∧ v = (if tM m c < m then nI (t + tM m c) else -9) ∧ MR μ' a (goI (tM m c) c))) 2 [.ref a, .int (nI t)] [] μ
  | m, t, c, μ, htm, hw, hr => by
    have hA' := hA
    obtain ⟨i0, s0⟩ := hA
    refine tr_iload_n dX8_told_2 rfl ?_
    refine tr_bipush (v := nI 60) dX8_told_3 (by decide) ?_
    -- at 5: .if_icmp .gt 23
    refine tr_gtN (tgt := 28) dX8_told_5 (by decide) (by omega) (by omega) (fun h1 => ?_) (fun h1 => ?_)
    · obtain rfl : m = 0 := by omega
      refine tr_bipush (v := -9) dX8_told_28 (by decide) ?_
      -- at 30: .ireturn
      refine tr_iret dX8_told_30 (by first | exact trivial | rfl) ⟨same.rf μ _, rfl, hr⟩
    · obtain ⟨m', rfl⟩ : ∃ m', m = m' + 1 := ⟨m - 1, by omega⟩
      refine tr_aload_n dX8_told_8 rfl ?_
      -- at 9: .invokestatic 170
      refine tr_Si (As := [_]) dX8_told_9 fm_RX8_170 rfl rfl (Nat.le_of_ble_eq_true rfl) (r_isTold (d := d + 2) hA' hr hw) (fun v μ1 ⟨e1, e2⟩ => ?_)
      subst μ1; subst v
      refine tr_ifb0 (tgt := 17) dX8_told_12 (by decide) (fun h2 => ?_) (fun h2 => ?_)
      · refine tr_aload_n dX8_told_17 rfl ?_
        -- at 18: .invokestatic 153
        refine tr_Si (As := [_]) dX8_told_18 fm_RX8_153 rfl rfl (Nat.le_of_ble_eq_true rfl) (r_goes (d := d) hA' hr hw) (fun v μ1 ⟨e1, e2, e3⟩ => ?_)
        refine tr_pop dX8_told_21 rfl ?_
        first | with_reducible refine tr_iincN_1 dX8_told_22 (by decide) rfl ?_ | refine tr_iinc_1 dX8_told_22 (by decide) rfl ?_
        refine tr_goto (tgt := 2) dX8_told_25 (by decide) ?_
        -- at 2: .iload_n 1
        have e : tM (m' + 1) c = 1 + tM m' (goC c) := by rw [tM, if_neg (by rw [h2]; decide)]
        rw [e]
        have key := l_told hA' m' (t + 1) (goC c) μ1 (by omega) (goC_wf hw) e2
        refine tw_mono key (fun r μ' ⟨v, q1, q2, q3, q4⟩ => ⟨v, q1, e1.trans q2, ?_, ?_⟩)
        · rw [q3]
          by_cases g : tM m' (goC c) < m'
          · rw [if_pos g, if_pos (by omega), Nat.add_assoc]
          · rw [if_neg g, if_neg (by omega)]
        · rw [Nat.add_comm, goI]; exact q4
      · have e : tM (m' + 1) c = 0 := by rw [tM, if_pos h2]
        rw [e]
        refine tr_iload_n dX8_told_15 rfl ?_
        -- at 16: .ireturn
        refine tr_iret dX8_told_16 (by first | exact trivial | rfl) ⟨same.rf μ _, rfl, hr⟩
  termination_by m => m
theorem r_told (hA : isA a) (hr : MR μ a c) (hw : wfc c) : cp X (d + 5) kX8_told [.ref a] μ (qi (fun v μ' => same μ μ' [a] ∧ v = (if tM 61 c < 61 then nI (tM 61 c) else -9) ∧ MR μ' a (goI (tM 61 c) c))) := by
  refine cp_of ok_X8_told (L := [.ref a, .float 0]) rfl ?_
  refine tr_iconst (v := nI 0) dX8_told_0 (by decide) ?_
  refine tr_istore_n_1 dX8_told_1 (by decide) rfl ?_
  -- at 2: .iload_n 1
  have key := l_told (X := X) (d := d) hA 61 0 c μ (by omega) hw hr
  rw [Nat.zero_add] at key
  exact key
theorem r_is {kd o : Nat} (hk : kd < 6) (ho : o < 6) : cp X (d + 1) kX8_is [.int (nI kd), .int (nI o)] μ (qi (fun v μ' => μ' = μ ∧ v = nI (bN (isM kd o)))) := by
  refine cp_of ok_X8_is (L := [.int (nI kd), .int (nI o)]) rfl ?_
  have hT : isM kd o = true → tw X d kX8_is (qi (fun v μ' => μ' = μ ∧ v = nI (bN (isM kd o)))) 29 [.int (nI kd), .int (nI o)] [] μ := by
    intro e
    refine tr_iconst (v := nI 1) dX8_is_29 (by decide) ?_
    refine tr_goto (tgt := 34) dX8_is_30 (by decide) ?_
    -- at 34: .ireturn
    refine tr_iret dX8_is_34 (by first | exact trivial | rfl) ⟨rfl, by rw [e]; rfl⟩
  have hF : isM kd o = false → tw X d kX8_is (qi (fun v μ' => μ' = μ ∧ v = nI (bN (isM kd o)))) 33 [.int (nI kd), .int (nI o)] [] μ := by
    intro e
    refine tr_iconst (v := nI 0) dX8_is_33 (by decide) ?_
    -- at 34: .ireturn
    refine tr_iret dX8_is_34 (by first | exact trivial | rfl) ⟨rfl, by rw [e]; rfl⟩
  refine tr_iload_n dX8_is_0 rfl ?_
  -- at 1: .ifCond .eq 28
  refine tr_if0N (tgt := 29) dX8_is_1 (by decide) (by omega) (fun h1 => ?_) (fun h1 => ?_)
  · exact hT (by simp [isM, h1])
  · refine tr_iload_n dX8_is_4 rfl ?_
    refine tr_iload_n dX8_is_5 rfl ?_
    -- at 6: .if_icmp .eq 23
    refine tr_eqN (tgt := 29) dX8_is_6 (by decide) (by omega) (by omega) (fun h2 => ?_) (fun h2 => ?_)
    · exact hT (by simp [isM, h2])
    · have h19 : ¬ (kd = 4 ∧ o = 1) → tw X d kX8_is (qi (fun v μ' => μ' = μ ∧ v = nI (bN (isM kd o)))) 19 [.int (nI kd), .int (nI o)] [] μ := by
        intro h3
        refine tr_iload_n dX8_is_19 rfl ?_
        refine tr_iconst (v := nI 5) dX8_is_20 (by decide) ?_
        -- at 21: .if_icmp .ne 12
        refine tr_neN (tgt := 33) dX8_is_21 (by decide) (by omega) (by omega) (fun h4 => ?_) (fun h4 => ?_)
        · exact hF (by simp [isM, h1, h2, h4]; omega)
        · refine tr_iload_n dX8_is_24 rfl ?_
          refine tr_iconst (v := nI 2) dX8_is_25 (by decide) ?_
          -- at 26: .if_icmp .ne 7
          refine tr_neN (tgt := 33) dX8_is_26 (by decide) (by omega) (by omega) (fun h5 => ?_) (fun h5 => ?_)
          · exact hF (by simp [isM, h1, h2, h5]; omega)
          · exact hT (by simp [isM, h4, h5])
      refine tr_iload_n dX8_is_9 rfl ?_
      refine tr_iconst (v := nI 4) dX8_is_10 (by decide) ?_
      -- at 11: .if_icmp .ne 8
      refine tr_neN (tgt := 19) dX8_is_11 (by decide) (by omega) (by omega) (fun h3 => ?_) (fun h3 => ?_)
      · exact h19 (by omega)
      · refine tr_iload_n dX8_is_14 rfl ?_
        refine tr_iconst (v := nI 1) dX8_is_15 (by decide) ?_
        -- at 16: .if_icmp .eq 13
        refine tr_eqN (tgt := 29) dX8_is_16 (by decide) (by omega) (by omega) (fun h4 => ?_) (fun h4 => ?_)
        · exact hT (by simp [isM, h3, h4])
        · exact h19 (by omega)
theorem r_ones {s : Nat} (hs : s < 128) : cp X (d + 1) kX8_ones [.int (nI s)] μ (qi (fun v μ' => μ' = μ ∧ v = nI (onesM 7 s))) := by
  refine cp_of ok_X8_ones (L := [.int (nI s), .float 0, .float 0]) rfl ?_
  refine tr_iconst (v := nI 0) dX8_ones_0 (by decide) ?_
  refine tr_istore_n_1 dX8_ones_1 (by decide) rfl ?_
  refine tr_iconst (v := nI 0) dX8_ones_2 (by decide) ?_
  refine tr_istore_n_2 dX8_ones_3 (by decide) rfl ?_
  -- at 4: .iload_n 2
  refine tw_for (n := 7) (Lf := fun k => [.int (nI s), .int (nI (onesM k s)), .int (nI k)]) (P := fun k μ1 => μ1 = μ) (fun k μ1 hk hP ih => ?_) (fun μ1 hP => ?_) 0 _ (by omega) rfl
  · subst hP
    refine tr_iload_n dX8_ones_4 rfl ?_
    refine tr_bipush (v := nI 7) dX8_ones_5 (by decide) ?_
    -- at 7: .if_icmp .ge 17
    refine tr_geN (tgt := 24) dX8_ones_7 (by decide) (by omega) (by omega) (fun h1 => ?_) (fun h1 => ?_)
    · omega
    · refine tr_iload_n dX8_ones_10 rfl ?_
      refine tr_iload_n dX8_ones_11 rfl ?_
      refine tr_iload_n dX8_ones_12 rfl ?_
      refine tr_ishr dX8_ones_13 ?_
      refine tr_iconst (v := nI 1) dX8_ones_14 (by decide) ?_
      refine tr_iand dX8_ones_15 ?_
      -- at 16: .iadd
      refine tr_v (jam_bit _ hs k hk) ?_
      first | with_reducible refine tr_iaddN dX8_ones_16 ?_ | refine tr_iadd dX8_ones_16 ?_
      refine tr_istore_n_1 dX8_ones_17 (by decide) rfl ?_
      first | with_reducible refine tr_iincN_2 dX8_ones_18 (by decide) rfl ?_ | refine tr_iinc_2 dX8_ones_18 (by decide) rfl ?_
      refine tr_goto (tgt := 4) dX8_ones_21 (by decide) ?_
      -- at 4: .iload_n 2
      exact ih _ rfl
  · subst hP
    refine tr_iload_n dX8_ones_4 rfl ?_
    refine tr_bipush (v := nI 7) dX8_ones_5 (by decide) ?_
    -- at 7: .if_icmp .ge 17
    refine tr_geN (tgt := 24) dX8_ones_7 (by decide) (by omega) (by omega) (fun h1 => ?_) (fun h1 => ?_)
    · refine tr_iload_n dX8_ones_24 rfl ?_
      -- at 25: .ireturn
      refine tr_iret dX8_ones_25 (by first | exact trivial | rfl) ⟨rfl, rfl⟩
    · omega
theorem l_aims (hA : isA a) {msg : Int32} {v0 : Value} : ∀ (m r : Nat) (c : NF) (μ : am_M), m ≤ c 18 → r < 2 ^ 31 → wfc c → MR μ a c → tw X d kX8_aims (qv (fun μ' => same μ μ' [a] ∧ MR μ' a (aimM m r c))) 10 [v0, .ref a, .int msg, .int (nI r), .int (nI m - nI 1)] [] μ
  | m, r, c, μ, hm, hrr, hw, hr => by
    have hA' := hA
    obtain ⟨i0, s0⟩ := hA
    have h7 := hw.1
    cases m with
    | zero =>
      refine tr_iload dX8_aims_10 rfl ?_
      -- at 12: .ifCond .lt 25
      refine tr_if_lt (tgt := 37) dX8_aims_12 (by decide) (fun h1 => ?_) (fun h1 => ?_)
      · refine tr_vret dX8_aims_37 (by first | exact trivial | rfl) ⟨same.rf μ _, hr⟩
      · exact absurd h1 (by decide)
    | succ m =>
      rw [pk_sub (by omega), Nat.add_sub_cancel]
      refine tr_iload dX8_aims_10 rfl ?_
      -- at 12: .ifCond .lt 25
      refine tr_if_lt (tgt := 37) dX8_aims_12 (by decide) (fun h1 => ?_) (fun h1 => ?_)
      · exact absurd h1 (nI_pos (by omega))
      · refine tr_aload_n dX8_aims_15 rfl ?_
        refine tr_bipush (v := nI 11) dX8_aims_16 (by decide) ?_
        refine tr_iload dX8_aims_18 rfl ?_
        first | with_reducible refine tr_iaddN dX8_aims_20 ?_ | refine tr_iadd dX8_aims_20 ?_
        refine tr_iload_n dX8_aims_21 rfl ?_
        refine tr_bipush (v := nI 10) dX8_aims_22 (by decide) ?_
        first | with_reducible refine tr_iremN dX8_aims_24 (by omega) (by omega) (by omega) ?_ | refine tr_irem dX8_aims_24 (by decide) ?_
        refine tr_iast dX8_aims_25 (by first | assumption | decide) (by first | assumption | rfl) rfl (by omega) (by omega) ?_
        -- at 26: .iload_n 3
        have hr2 := hr.set (11 + m) (r % 10)
        have hs2 := (same.rf μ [a]).put (a := a) (upd (μ.1 a) (11 + m) (nI (r % 10))) (by simp)
        generalize sI μ a (upd (μ.1 a) (11 + m) (nI (r % 10))) = μ2 at hr2 hs2 ⊢
        refine tr_iload_n dX8_aims_26 rfl ?_
        refine tr_bipush (v := nI 10) dX8_aims_27 (by decide) ?_
        first | with_reducible refine tr_idivN dX8_aims_29 (by omega) (by omega) (by omega) ?_ | refine tr_idiv dX8_aims_29 (by decide) ?_
        refine tr_istore_n_3 dX8_aims_30 (by decide) rfl ?_
        refine tr_iincm_4 dX8_aims_31 (by decide) rfl ?_
        refine tr_goto (tgt := 10) dX8_aims_34 (by decide) ?_
        -- at 10: .iload 4
        rw [aimM]
        have key := l_aims hA' (msg := msg) (v0 := v0) m (r / 10) (nu c (11 + m) (r % 10)) μ2 (by rw [nu_n _ _ (by omega)]; omega) (by omega) (hw.goal (by omega) (by omega)) hr2
        exact tw_mono key (fun r μ' ⟨q1, q2, q3⟩ => ⟨q1, hs2.trans q2, q3⟩)
  termination_by m => m
theorem r_aims {m : Nat} (hm : m < 2 ^ 31) (hA : isA a) (hr : MR μ a c) (hw : wfc c) : cp X (d + 1) kX8_aims [.ref 99, .ref a, .int (nI m)] μ (qv (fun μ' => same μ μ' [a] ∧ MR μ' a (aimM (c 18) m c))) := by
  have hA' := hA
  obtain ⟨i0, s0⟩ := hA
  have k18 := hr 18 (by omega)
  refine cp_of ok_X8_aims (L := [.ref 99, .ref a, .int (nI m), .float 0, .float 0]) rfl ?_
  refine tr_iload_n dX8_aims_0 rfl ?_
  refine tr_istore_n_3 dX8_aims_1 (by decide) rfl ?_
  refine tr_aload_n dX8_aims_2 rfl ?_
  refine tr_bipush (v := nI 18) dX8_aims_3 (by decide) ?_
  refine tr_iald dX8_aims_5 (by first | assumption | decide) (by first | assumption | rfl) rfl (by omega) (by omega) (by first | assumption | rfl) ?_
  refine tr_iconst (v := nI 1) dX8_aims_6 (by decide) ?_
  -- at 7: .isub
  refine tr_isub dX8_aims_7 ?_
  refine tr_istore_4 dX8_aims_8 (by decide) rfl ?_
  -- at 10: .iload 4
  exact l_aims hA' (c 18) m c μ (by omega) hm hw hr
end M4
