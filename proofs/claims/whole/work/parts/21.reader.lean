-- ===== Reader; Share =====
def fdM (n : Nat) (f : Nat → Int32) (p : Nat) : Option Nat := match kdV (f p) with
  | none => some p
  | some _ => if ¬ (p + 1 < n ∧ isFig 0 (f (p + 1)) = true) then some (p + 1) else if ¬ (p + 2 < n ∧ isFig 0 (f (p + 2)) = true) then some (p + 2) else none
theorem kdR_none {x : Int32} (h : kdR (kdV x) = -9) : kdV x = none := by
  cases e : kdV x with
  | none => rfl
  | some k =>
    rw [e] at h
    have hk := kdV_lt e
    have : (nI k).toInt = (-9 : Int32).toInt := by rw [show nI k = -9 from h]
    rw [nI_toInt (by omega)] at this
    have : (-9 : Int32).toInt = -9 := rfl
    omega
theorem nI_m9 {k : Nat} (hk : k < 1000) : ¬ nI k = -9 := by
  intro h
  have : (nI k).toInt = (-9 : Int32).toInt := by rw [h]
  rw [nI_toInt (by omega)] at this
  have : (-9 : Int32).toInt = -9 := rfl
  omega
section RD
variable {X : Nat × (Nat → Int32)} {d : Nat} {μ : am_M} {a b i n : Nat} {c : NF} {f : Nat → Int32} {o : RV}
theorem c_faultOf {p : Nat} (hR : isT a) (hr : XR 60 μ a (some (n, f))) (hp : p < n) : cp X (d + 2) kX3_faultOfDrum [.ref a, .int (nI p)] μ (qi (fun v μ' => μ' = μ ∧ v = kdR (fdM n f p))) := by
  have hR' := hR
  have hn := hr.2.1
  obtain ⟨⟨i0, i1⟩, s0, s1⟩ := hR
  refine cp_of ok_X3_faultOfDrum (L := [.ref a, .int (nI p)]) rfl ?_
  refine tr_aload_n dX3_faultOfDrum_0 rfl ?_
  refine tr_iload_n dX3_faultOfDrum_1 rfl ?_
  -- at 2: .invokevirtual 38
  refine tr_Vi (As := [_]) dX3_faultOfDrum_2 fm_RX3_38 rfl rfl (by first | assumption | decide) (by first | assumption | rfl) (Nat.le_of_ble_eq_true rfl) (c_kind (d := d) hR' hr hp) (fun v μ1 ⟨e1, e2⟩ => ?_)
  subst μ1; subst v
  refine tr_bipush (v := -9) dX3_faultOfDrum_5 (by decide) ?_
  -- at 7: .if_icmp .ne 5
  refine tr_icmp_ne (tgt := 12) dX3_faultOfDrum_7 (by decide) (fun h1 => ?_) (fun h1 => ?_)
  · obtain ⟨k, hk⟩ : ∃ k, kdV (f p) = some k := by
      cases e : kdV (f p) with
      | none => rw [e] at h1; exact absurd rfl h1
      | some k => exact ⟨k, rfl⟩
    refine tr_aload_n dX3_faultOfDrum_12 rfl ?_
    refine tr_iload_n dX3_faultOfDrum_13 rfl ?_
    refine tr_iconst (v := nI 1) dX3_faultOfDrum_14 (by decide) ?_
    first | with_reducible refine tr_iaddN dX3_faultOfDrum_15 ?_ | refine tr_iadd dX3_faultOfDrum_15 ?_
    refine tr_iconst (v := nI 0) dX3_faultOfDrum_16 (by decide) ?_
    -- at 17: .invokevirtual 15
    refine tr_Vi (As := [_, _]) dX3_faultOfDrum_17 fm_RX3_15 rfl rfl (by first | assumption | decide) (by first | assumption | rfl) (Nat.le_of_ble_eq_true rfl) (c_isFigure (d := d) (lo := 0) (by omega) (by omega) hR' hr) (fun v μ1 ⟨e1, e2⟩ => ?_)
    subst μ1; subst v
    refine tr_ifb1 (tgt := 27) dX3_faultOfDrum_20 (by decide) (fun h2 => ?_) (fun h2 => ?_)
    · have h2' := of_decide_eq_true h2
      refine tr_aload_n dX3_faultOfDrum_27 rfl ?_
      refine tr_iload_n dX3_faultOfDrum_28 rfl ?_
      refine tr_iconst (v := nI 2) dX3_faultOfDrum_29 (by decide) ?_
      first | with_reducible refine tr_iaddN dX3_faultOfDrum_30 ?_ | refine tr_iadd dX3_faultOfDrum_30 ?_
      refine tr_iconst (v := nI 0) dX3_faultOfDrum_31 (by decide) ?_
      -- at 32: .invokevirtual 15
      refine tr_Vi (As := [_, _]) dX3_faultOfDrum_32 fm_RX3_15 rfl rfl (by first | assumption | decide) (by first | assumption | rfl) (Nat.le_of_ble_eq_true rfl) (c_isFigure (d := d) (lo := 0) (by omega) (by omega) hR' hr) (fun v μ1 ⟨e1, e2⟩ => ?_)
      subst μ1; subst v
      refine tr_ifb0 (tgt := 43) dX3_faultOfDrum_35 (by decide) (fun h3 => ?_) (fun h3 => ?_)
      · have h3' := of_decide_eq_false h3
        refine tr_iload_n dX3_faultOfDrum_43 rfl ?_
        refine tr_iconst (v := nI 2) dX3_faultOfDrum_44 (by decide) ?_
        first | with_reducible refine tr_iaddN dX3_faultOfDrum_45 ?_ | refine tr_iadd dX3_faultOfDrum_45 ?_
        -- at 46: .ireturn
        refine tr_iret dX3_faultOfDrum_46 (by first | exact trivial | rfl) ⟨rfl, by rw [fdM, hk]; dsimp only; rw [if_neg (by simpa using h2'), if_pos h3']; rfl⟩
      · have h3' := of_decide_eq_true h3
        refine tr_bipush (v := -9) dX3_faultOfDrum_38 (by decide) ?_
        refine tr_goto (tgt := 46) dX3_faultOfDrum_40 (by decide) ?_
        -- at 46: .ireturn
        refine tr_iret dX3_faultOfDrum_46 (by first | exact trivial | rfl) ⟨rfl, by rw [fdM, hk]; dsimp only; rw [if_neg (by simpa using h2'), if_neg (by simpa using h3')]; rfl⟩
    · have h2' := of_decide_eq_false h2
      refine tr_iload_n dX3_faultOfDrum_23 rfl ?_
      refine tr_iconst (v := nI 1) dX3_faultOfDrum_24 (by decide) ?_
      first | with_reducible refine tr_iaddN dX3_faultOfDrum_25 ?_ | refine tr_iadd dX3_faultOfDrum_25 ?_
      -- at 26: .ireturn
      refine tr_iret dX3_faultOfDrum_26 (by first | exact trivial | rfl) ⟨rfl, by rw [fdM, hk]; dsimp only; rw [if_pos h2']; rfl⟩
  · refine tr_iload_n dX3_faultOfDrum_10 rfl ?_
    -- at 11: .ireturn
    refine tr_iret dX3_faultOfDrum_11 (by first | exact trivial | rfl) ⟨rfl, by rw [fdM, kdR_none h1]; rfl⟩
theorem l_read (hT : isT a) (hB : isB b) (hab : b + 4 < a) (hn : n ≤ 60) : ∀ (m p : Nat) (c : NF) (w : Value) (μ : am_M), c 18 + m = 8 → 1 ≤ m → p ≤ n → wfc c → BR μ b c → XR 60 μ a (some (n, f)) → tw X (d + 2) kX3_read (qi (fun v μ' => same μ μ' [b, b + 1, b + 2, b + 3, b + 4] ∧ v = kdR (rdL n f m p c).1 ∧ ((rdL n f m p c).1 = none → BR μ' b (rdL n f m p c).2))) 36 [.ref a, .ref b, .int (nI p), .int (nI (c 18)), w] [] μ
  | m, p, c, w, μ, hcm, hm, hp, hw, hr, hx => by
    have hT' := hT
    have hB' := hB
    have hr' := hr
    have hx' := hx
    obtain ⟨⟨i0, i1⟩, s0, s1⟩ := hT
    obtain ⟨⟨j0, j1, j2, j3, j4⟩, z0, z1, z2, z3, z4⟩ := hB
    obtain ⟨r1, r2, r3⟩ := hx
    have r4 := hr.1
    have hw1 := hw.1
    obtain ⟨m', rfl⟩ : ∃ m', m = m' + 1 := ⟨m - 1, by omega⟩
    have hlast : ¬ (p < n ∧ c 18 < 7) → tw X (d + 2) kX3_read (qi (fun v μ' => same μ μ' [b, b + 1, b + 2, b + 3, b + 4] ∧ v = kdR (rdL n f (m' + 1) p c).1 ∧ ((rdL n f (m' + 1) p c).1 = none → BR μ' b (rdL n f (m' + 1) p c).2))) 104 [.ref a, .ref b, .int (nI p), .int (nI (c 18)), w] [] μ := by
      intro hc
      refine tr_iload_n dX3_read_104 rfl ?_
      refine tr_aload_n dX3_read_105 rfl ?_
      refine tr_getI dX3_read_106 fg_RX3_28 (by first | assumption | decide) (by first | assumption | rfl) rfl (by first | assumption | rfl) ?_
      -- at 109: .if_icmp .lt 11
      refine tr_ltN (tgt := 120) dX3_read_109 (by decide) (by omega) (by omega) (fun h1 => ?_) (fun h1 => ?_)
      · have h7 : c 18 = 7 := by omega
        have e : rdL n f (m' + 1) p c = (some p, c) := by
          rw [rdL, if_pos h1]
          cases kdV (f p) with
          | none => rfl
          | some k => dsimp only; rw [if_pos h7]
        refine tr_iload_n dX3_read_120 rfl ?_
        refine tr_goto (tgt := 126) dX3_read_121 (by decide) ?_
        -- at 126: .ireturn
        refine tr_iret dX3_read_126 (by first | exact trivial | rfl) ⟨same.rf μ _, by rw [e]; rfl, fun q => by rw [e] at q; cases q⟩
      · refine tr_aload_n dX3_read_112 rfl ?_
        refine tr_getI dX3_read_113 fg_RX3_45 (by first | assumption | decide) (by first | assumption | rfl) rfl (by first | assumption | rfl) ?_
        refine tr_iconst (v := nI 2) dX3_read_116 (by decide) ?_
        -- at 117: .if_icmp .ge 7
        refine tr_geN (tgt := 124) dX3_read_117 (by decide) (by omega) (by omega) (fun h2 => ?_) (fun h2 => ?_)
        · have e : rdL n f (m' + 1) p c = (none, c) := by rw [rdL, if_neg (by omega), if_neg (by omega)]
          refine tr_bipush (v := -9) dX3_read_124 (by decide) ?_
          -- at 126: .ireturn
          refine tr_iret dX3_read_126 (by first | exact trivial | rfl) ⟨same.rf μ _, by rw [e]; rfl, fun q => by rw [e]; exact hr'⟩
        · have e : rdL n f (m' + 1) p c = (some p, c) := by rw [rdL, if_neg (by omega), if_pos h2]
          refine tr_iload_n dX3_read_120 rfl ?_
          refine tr_goto (tgt := 126) dX3_read_121 (by decide) ?_
          -- at 126: .ireturn
          refine tr_iret dX3_read_126 (by first | exact trivial | rfl) ⟨same.rf μ _, by rw [e]; rfl, fun q => by rw [e] at q; cases q⟩
    refine tr_iload_n dX3_read_36 rfl ?_
    refine tr_bipush (v := nI 7) dX3_read_37 (by decide) ?_
    -- at 39: .if_icmp .ge 65
    refine tr_geN (tgt := 104) dX3_read_39 (by decide) (by omega) (by omega) (fun h1 => ?_) (fun h1 => ?_)
    · exact hlast (by omega)
    · refine tr_iload_n dX3_read_42 rfl ?_
      refine tr_aload_n dX3_read_43 rfl ?_
      refine tr_getI dX3_read_44 fg_RX3_28 (by first | assumption | decide) (by first | assumption | rfl) rfl (by first | assumption | rfl) ?_
      -- at 47: .if_icmp .ge 57
      refine tr_geN (tgt := 104) dX3_read_47 (by decide) (by omega) (by omega) (fun h2 => ?_) (fun h2 => ?_)
      · exact hlast (by omega)
      · refine tr_aload_n dX3_read_50 rfl ?_
        refine tr_iload_n dX3_read_51 rfl ?_
        -- at 52: .invokestatic 32
        refine tr_Si (As := [_, _]) dX3_read_52 fm_RX3_32 rfl rfl (Nat.le_of_ble_eq_true rfl) (c_faultOf (d := d) hT' hx' h2) (fun v μ1 ⟨e1, e2⟩ => ?_)
        subst μ1; subst v
        refine tr_istore_4 dX3_read_55 (by decide) rfl ?_
        refine tr_iload dX3_read_57 rfl ?_
        refine tr_bipush (v := -9) dX3_read_59 (by decide) ?_
        -- at 61: .if_icmp .eq 6
        refine tr_icmp_eq (tgt := 67) dX3_read_61 (by decide) (fun h3 => ?_) (fun h3 => ?_)
        · have h4 : fdM n f p = none := by
            cases e : fdM n f p with
            | none => rfl
            | some k =>
              rw [e] at h3
              have hk : k < 1000 := by
                unfold fdM at e
                repeat' split at e
                all_goals first | (cases e; omega) | cases e
              exact absurd h3 (nI_m9 hk)
          obtain ⟨kd, hkd, g1, g2⟩ : ∃ kd, kdV (f p) = some kd ∧ (p + 1 < n ∧ isFig 0 (f (p + 1)) = true) ∧ (p + 2 < n ∧ isFig 0 (f (p + 2)) = true) := by
            unfold fdM at h4
            cases e : kdV (f p) with
            | none => rw [e] at h4; cases h4
            | some kd =>
              rw [e] at h4
              dsimp only at h4
              by_cases q1 : (p + 1 < n ∧ isFig 0 (f (p + 1)) = true)
              · rw [if_neg (by simpa using q1)] at h4
                by_cases q2 : (p + 2 < n ∧ isFig 0 (f (p + 2)) = true)
                · exact ⟨kd, rfl, q1, q2⟩
                · rw [if_pos q2] at h4; cases h4
              · rw [if_pos q1] at h4; cases h4
          have e : rdL n f (m' + 1) p c = rdL n f m' (skS n f (p + 3)) (addC c kd (figV (f (p + 1))) (figV (f (p + 2)))) := by
            rw [rdL, if_pos h2, hkd]
            dsimp only
            rw [if_neg (by omega), if_neg (by simpa using g1), if_neg (by simpa using g2)]
          refine tr_aload_n dX3_read_67 rfl ?_
          refine tr_aload_n dX3_read_68 rfl ?_
          refine tr_iload_n dX3_read_69 rfl ?_
          -- at 70: .invokevirtual 38
          refine tr_Vi (As := [_]) dX3_read_70 fm_RX3_38 rfl rfl (by first | assumption | decide) (by first | assumption | rfl) (Nat.le_of_ble_eq_true rfl) (c_kind (d := d + 1) hT' hx' h2) (fun v μ1 ⟨e1, e2⟩ => ?_)
          subst μ1; subst v
          rw [hkd]
          refine tr_aload_n dX3_read_73 rfl ?_
          refine tr_iload_n dX3_read_74 rfl ?_
          refine tr_iconst (v := nI 1) dX3_read_75 (by decide) ?_
          first | with_reducible refine tr_iaddN dX3_read_76 ?_ | refine tr_iadd dX3_read_76 ?_
          -- at 77: .invokevirtual 19
          refine tr_Vi (As := [_]) dX3_read_77 fm_RX3_19 rfl rfl (by first | assumption | decide) (by first | assumption | rfl) (Nat.le_of_ble_eq_true rfl) (c_figure (d := d + 1) (lo := 0) (by omega) hT' hx' g1.1 g1.2) (fun v μ1 ⟨e1, e2⟩ => ?_)
          subst μ1; subst v
          refine tr_aload_n dX3_read_80 rfl ?_
          refine tr_iload_n dX3_read_81 rfl ?_
          refine tr_iconst (v := nI 2) dX3_read_82 (by decide) ?_
          first | with_reducible refine tr_iaddN dX3_read_83 ?_ | refine tr_iadd dX3_read_83 ?_
          -- at 84: .invokevirtual 19
          refine tr_Vi (As := [_]) dX3_read_84 fm_RX3_19 rfl rfl (by first | assumption | decide) (by first | assumption | rfl) (Nat.le_of_ble_eq_true rfl) (c_figure (d := d + 1) (lo := 0) (by omega) hT' hx' g2.1 g2.2) (fun v μ1 ⟨e1, e2⟩ => ?_)
          subst μ1; subst v
          refine tr_Vv (As := [_, _, _]) dX3_read_87 fm_RX3_41 rfl rfl (by first | assumption | decide) (by first | assumption | rfl) (Nat.le_of_ble_eq_true rfl) (c_addDrum (d := d + 1) (kd := kd) hB' hr' (by omega)) (fun μ1 ⟨hs1, hr1⟩ => ?_)
          have hx1 : XR 60 μ1 a (some (n, f)) := hx'.kept (hs1.1 a (by simp; omega)) (hs1.1 (a + 1) (by simp; omega))
          refine tr_aload_n dX3_read_90 rfl ?_
          refine tr_iload_n dX3_read_91 rfl ?_
          refine tr_iconst (v := nI 3) dX3_read_92 (by decide) ?_
          first | with_reducible refine tr_iaddN dX3_read_93 ?_ | refine tr_iadd dX3_read_93 ?_
          -- at 94: .invokevirtual 9
          refine tr_Vi (As := [_]) dX3_read_94 fm_RX3_9 rfl rfl (by first | assumption | decide) (by first | assumption | rfl) (Nat.le_of_ble_eq_true rfl) (c_past (d := d + 1) (by omega) hT' hx1) (fun v μ2 ⟨e1, e2⟩ => ?_)
          subst μ2; subst v
          refine tr_istore_n_2 dX3_read_97 (by decide) rfl ?_
          first | with_reducible refine tr_iincN_3 dX3_read_98 (by decide) rfl ?_ | refine tr_iinc_3 dX3_read_98 (by decide) rfl ?_
          refine tr_goto (tgt := 36) dX3_read_101 (by decide) ?_
          -- at 36: .iload_n 3
          rw [e]
          have hw2 : wfc (addC c kd (figV (f (p + 1))) (figV (f (p + 2)))) := addC_wf hw (by omega) (kdV_lt hkd) (isFig_v (by omega) g1.2).2.1 (isFig_v (by omega) g2.2).2.1
          have key := l_read hT' hB' hab hn m' (skS n f (p + 3)) (addC c kd (figV (f (p + 1))) (figV (f (p + 2)))) (.int (kdR (fdM n f p))) μ1 (by rw [addC_18]; omega) (by omega) (skS_le (by omega)) hw2 hr1 hx1
          rw [addC_18] at key
          exact tw_mono key (fun r μ' ⟨v, q1, q2, q3⟩ => ⟨v, q1, hs1.trans q2, q3⟩)
        · obtain ⟨k, hk⟩ : ∃ k, fdM n f p = some k := by
            cases e : fdM n f p with
            | none => rw [e] at h3; exact absurd rfl h3
            | some k => exact ⟨k, rfl⟩
          have e : rdL n f (m' + 1) p c = (some k, c) := by
            unfold fdM at hk
            rw [rdL, if_pos h2]
            cases e : kdV (f p) with
            | none => rw [e] at hk; cases hk; rfl
            | some kd =>
              rw [e] at hk
              dsimp only at hk ⊢
              rw [if_neg (by omega)]
              by_cases q1 : (p + 1 < n ∧ isFig 0 (f (p + 1)) = true)
              · rw [if_neg (by simpa using q1)] at hk ⊢
                by_cases q2 : (p + 2 < n ∧ isFig 0 (f (p + 2)) = true)
                · rw [if_neg (by simpa using q2)] at hk; cases hk
                · rw [if_pos q2] at hk ⊢; cases hk; rfl
              · rw [if_pos q1] at hk ⊢; cases hk; rfl
          refine tr_iload dX3_read_64 rfl ?_
          -- at 66: .ireturn
          refine tr_iret dX3_read_66 (by first | exact trivial | rfl) ⟨same.rf μ _, by rw [e, hk], fun q => by rw [e] at q; cases q⟩
theorem c_read (hT : isT a) (hB : isB b) (hab : b + 4 < a) (hx : XR 60 μ a (some (n, f))) : cp X (d + 3) kX3_read [.ref a, .ref b] μ (qi (fun v μ' => same μ μ' [b, b + 1, b + 2, b + 3, b + 4] ∧ v = kdR (rdT n f).1 ∧ ((rdT n f).1 = none → BR μ' b (rdT n f).2))) := by
  have hT' := hT
  have hB' := hB
  have hx' := hx
  obtain ⟨⟨i0, i1⟩, s0, s1⟩ := hT
  obtain ⟨⟨j0, j1, j2, j3, j4⟩, z0, z1, z2, z3, z4⟩ := hB
  obtain ⟨r1, r2, r3⟩ := hx
  have hsk : skS n f 0 ≤ n := skS_le (by omega)
  refine cp_of ok_X3_read (L := [.ref a, .ref b, .float 0, .float 0, .float 0]) rfl ?_
  refine tr_aload_n dX3_read_0 rfl ?_
  refine tr_iconst (v := nI 0) dX3_read_1 (by decide) ?_
  -- at 2: .invokevirtual 9
  refine tr_Vi (As := [_]) dX3_read_2 fm_RX3_9 rfl rfl (by first | assumption | decide) (by first | assumption | rfl) (Nat.le_of_ble_eq_true rfl) (c_past (d := d + 1) (p := 0) (by omega) hT' hx') (fun v μ1 ⟨e1, e2⟩ => ?_)
  subst μ1; subst v
  refine tr_istore_n_2 dX3_read_5 (by decide) rfl ?_
  refine tr_aload_n dX3_read_6 rfl ?_
  refine tr_iload_n dX3_read_7 rfl ?_
  refine tr_iconst (v := nI 1) dX3_read_8 (by decide) ?_
  -- at 9: .invokevirtual 15
  refine tr_Vi (As := [_, _]) dX3_read_9 fm_RX3_15 rfl rfl (by first | assumption | decide) (by first | assumption | rfl) (Nat.le_of_ble_eq_true rfl) (c_isFigure (d := d + 1) (lo := 1) (by omega) (by omega) hT' hx') (fun v μ1 ⟨e1, e2⟩ => ?_)
  subst μ1; subst v
  refine tr_ifb1 (tgt := 17) dX3_read_12 (by decide) (fun h1 => ?_) (fun h1 => ?_)
  · have h1' := of_decide_eq_true h1
    have e : rdT n f = rdL n f 8 (skS n f (skS n f 0 + 1)) (nu (fun _ => 0) 0 (figV (f (skS n f 0)))) := by rw [rdT, if_pos h1']
    refine tr_aload_n dX3_read_17 rfl ?_
    refine tr_aload_n dX3_read_18 rfl ?_
    refine tr_iload_n dX3_read_19 rfl ?_
    -- at 20: .invokevirtual 19
    refine tr_Vi (As := [_]) dX3_read_20 fm_RX3_19 rfl rfl (by first | assumption | decide) (by first | assumption | rfl) (Nat.le_of_ble_eq_true rfl) (c_figure (d := d + 1) (lo := 1) (by omega) hT' hx' h1'.1 h1'.2) (fun v μ1 ⟨e1, e2⟩ => ?_)
    subst μ1; subst v
    refine tr_Vv (As := [_]) dX3_read_23 fm_RX3_22 rfl rfl (by first | assumption | decide) (by first | assumption | rfl) (Nat.le_of_ble_eq_true rfl) (c_begin (d := d + 1) hB') (fun μ1 ⟨hs1, hr1⟩ => ?_)
    have hs1 := hs1.wide (l' := [b, b + 1, b + 2, b + 3, b + 4]) (by simp)
    have hx1 : XR 60 μ1 a (some (n, f)) := hx'.kept (hs1.1 a (by simp; omega)) (hs1.1 (a + 1) (by simp; omega))
    refine tr_aload_n dX3_read_26 rfl ?_
    refine tr_iload_n dX3_read_27 rfl ?_
    refine tr_iconst (v := nI 1) dX3_read_28 (by decide) ?_
    first | with_reducible refine tr_iaddN dX3_read_29 ?_ | refine tr_iadd dX3_read_29 ?_
    -- at 30: .invokevirtual 9
    refine tr_Vi (As := [_]) dX3_read_30 fm_RX3_9 rfl rfl (by first | assumption | decide) (by first | assumption | rfl) (Nat.le_of_ble_eq_true rfl) (c_past (d := d + 1) (by omega) hT' hx1) (fun v μ2 ⟨e1, e2⟩ => ?_)
    subst μ2; subst v
    refine tr_istore_n_2 dX3_read_33 (by decide) rfl ?_
    refine tr_iconst (v := nI 0) dX3_read_34 (by decide) ?_
    refine tr_istore_n_3 dX3_read_35 (by decide) rfl ?_
    -- at 36: .iload_n 3
    rw [e]
    have key := l_read (X := X) (d := d) hT' hB' hab r2 8 (skS n f (skS n f 0 + 1)) (nu (fun _ => 0) 0 (figV (f (skS n f 0)))) (.float 0) μ1 (by rw [nu_n _ _ (by omega)]) (by omega) (skS_le (by omega)) (wfc_0 (by have := (isFig_v (by omega) h1'.2).2.1; omega)) hr1 hx1
    exact tw_mono key (fun r μ' ⟨v, q1, q2, q3⟩ => ⟨v, q1, hs1.trans q2, q3⟩)
  · have h1' := of_decide_eq_false h1
    have e : rdT n f = (some (skS n f 0), fun _ => 0) := by rw [rdT, if_neg h1']
    refine tr_iload_n dX3_read_15 rfl ?_
    -- at 16: .ireturn
    refine tr_iret dX3_read_16 (by first | exact trivial | rfl) ⟨same.rf μ _, by rw [e]; rfl, fun q => by rw [e] at q; cases q⟩
end RD
