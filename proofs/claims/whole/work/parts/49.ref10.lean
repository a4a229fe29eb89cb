-- ===== the reference: soonest, fitting, kinds, marks =====
def shP (c : NF) (i : Nat) (f : Nat → Int32) : Nat → Bool
  | 0 => true
  | k + 1 => shP c i f k && decide (nI (goI (k + 1) c (4 + i)) = f k)
theorem shP_t (c : NF) (i : Nat) (f : Nat → Int32) : ∀ k, shP c i f k = true ↔ ∀ t, t < k → nI (goI (t + 1) c (4 + i)) = f t
  | 0 => by simp [shP]
  | k + 1 => by
    rw [shP, Bool.and_eq_true, shP_t c i f k, decide_eq_true_iff]
    constructor
    · rintro ⟨h1, h2⟩ t ht
      by_cases e : t = k
      · subst e; exact h2
      · exact h1 t (by omega)
    · intro h
      exact ⟨fun t ht => h t (by omega), h k (by omega)⟩
theorem shM_t (c : NF) (i : Nat) (f : Nat → Int32) : ∀ m t, shM i f m t (goI t c) = true ↔ ∀ q, t ≤ q → q < t + m → nI (goI (q + 1) c (4 + i)) = f q
  | 0, t => by
    rw [shM]
    exact ⟨fun _ q h1 h2 => by omega, fun _ => rfl⟩
  | m + 1, t => by
    rw [shM, goI_s]
    by_cases e : nI (goI (t + 1) c (4 + i)) = f t
    · rw [if_pos e, shM_t c i f m (t + 1)]
      constructor
      · intro h q h1 h2
        by_cases e2 : q = t
        · subst e2; exact e
        · exact h q (by omega) (by omega)
      · intro h q h1 h2
        exact h q (by omega) (by omega)
    · rw [if_neg e]
      constructor
      · intro h; cases h
      · intro h; exact absurd (h t (by omega) (by omega)) e
theorem shM_P (c : NF) (i : Nat) (f : Nat → Int32) (n : Nat) : shM i f n 0 c = shP c i f n := by
  rw [Bool.eq_iff_iff, shP_t]
  have := shM_t c i f n 0
  rw [show goI 0 c = c from rfl] at this
  rw [this]
  exact ⟨fun h t ht => h t (by omega) (by omega), fun h q _ hq => h q (by omega)⟩
section M10
variable {X : Nat × (Nat → Int32)} {d : Nat} {μ : am_M} {σ : SG} {a b i j n p : Nat} {c : NF} {r x y z w : Int32} {f : Nat → Int32}
theorem r_soonest (h : MI μ σ) (hW : WI σ) : cp X (d + 6) kX8_soonest [.ref 99, .int r] μ (PM μ (S_soonest σ r)) := by
  have hw := hW.now
  have h7 := hw.1
  have hm := h.2.2.1
  have k18 := hm 18 (by omega)
  refine cp_of ok_X8_soonest (L := [.ref 99, .int r, .float 0, .float 0, .float 0, .float 0, .float 0, .float 0]) rfl ?_
  refine tr_iload_n dX8_soonest_0 rfl ?_
  -- at 1: .invokestatic 77
  refine tr_Si (As := [_]) dX8_soonest_1 fm_RX8_77 rfl rfl (Nat.le_of_ble_eq_true rfl) (r_isRow) (fun v μ1 ⟨e1, e2⟩ => ?_)
  subst μ1; subst v
  cases hr : ixV r 6 with
  | none =>
    refine tr_ifb1 (tgt := 9) dX8_soonest_4 (by decide) (fun h1 => ?_) (fun h1 => ?_)
    · cases h1
    · refine tr_iconst (v := -1) dX8_soonest_7 (by decide) ?_
      exact tr_iret dX8_soonest_8 (by first | exact trivial | rfl) (pm_same h (by rw [S_soonest, hr]))
  | some j =>
    obtain ⟨rfl, hj⟩ := ixV_some (by omega) hr
    refine tr_ifb1 (tgt := 9) dX8_soonest_4 (by decide) (fun h1 => ?_) (fun h1 => ?_)
    · refine tr_aload_n dX8_soonest_9 rfl ?_
      refine tr_getR dX8_soonest_10 fg_RX8_26 (by first | assumption | decide) (by first | assumption | rfl) rfl (by omega) ?_
      refine tr_bipush (v := nI 18) dX8_soonest_13 (by decide) ?_
      refine tr_iald dX8_soonest_15 (by first | assumption | decide) (by first | assumption | rfl) rfl (by omega) (by omega) (by first | assumption | rfl) ?_
      -- at 16: .ifCond .ne 6
      refine tr_ifnN (tgt := 22) dX8_soonest_16 (by decide) (by omega) (fun h3 => ?_) (fun h3 => ?_)
      · have hlt := amC_lt σ j
        refine tr_aload_n dX8_soonest_22 rfl ?_
        refine tr_iload_n dX8_soonest_23 rfl ?_
        -- at 24: .invokevirtual 177
        refine tr_Vi (As := [_]) dX8_soonest_24 fm_RX8_177 rfl rfl (by first | assumption | decide) (by first | assumption | rfl) (Nat.le_of_ble_eq_true rfl) (r_amiss h hW hj) (fun v μ1 ⟨e1, e2⟩ => ?_)
        subst μ1; subst v
        refine tr_istore_n_2 dX8_soonest_27 (by decide) (by first | rfl | assumption) ?_
        refine tr_iload_n dX8_soonest_28 rfl ?_
        -- at 29: .ifCond .eq 9
        refine tr_if0N (tgt := 38) dX8_soonest_29 (by decide) (by omega) (fun h4 => ?_) (fun h4 => ?_)
        · have em : mref σ j = none := by rw [mref_am h3, if_pos h4]
          obtain ⟨n, f, ho, hn0, hn5, hwith⟩ := mref_none em
          have hX := h.1 j hj
          rw [ho] at hX
          have r1 := hX.1
          have hfit := of_decide_eq_true hwith
          generalize amC σ j = am at *
          refine tr_bipush (v := -9) dX8_soonest_38 (by decide) ?_
          refine tr_istore_n_3 dX8_soonest_40 (by decide) (by first | rfl | assumption) ?_
          refine tr_bipush (v := nI 61) dX8_soonest_41 (by decide) ?_
          refine tr_istore_4 dX8_soonest_43 (by decide) (by first | rfl | assumption) ?_
          refine tr_iconst (v := nI 0) dX8_soonest_45 (by decide) ?_
          refine tr_istore_5 dX8_soonest_46 (by decide) (by first | rfl | assumption) ?_
          -- at 48: .iload 5
          refine tw_for3 (n := n) (Lf := fun k w1 w2 _ => [.ref 99, .int (nI j), .int (nI am), .int (kdR (sooM (nowM σ) f k).1), .int (nI (sooM (nowM σ) f k).2), .int (nI k), w1, w2]) (P := fun k μ1 => same μ μ1 [107]) (fun k w1 w2 w3 μ1 c1 c2 c3 hk hP ih => ?_) (fun w1 w2 w3 μ1 c1 c2 c3 hP => ?_) 0 (.float 0) (.float 0) (.float 0) _ (by omega) rfl rfl rfl (same.rf μ _)
          · have hM1 := h.same107 hP
            have hm1 := hM1.2.2.1
            have hX1 := hM1.1 j hj
            rw [ho] at hX1
            have r1 := hX1.1
            have r3 := hX1.2.2 k hk
            obtain ⟨g, hg, hfg⟩ := nI_of (Int32.not_lt.mpr (hfit k hk).1)
            have hsl := (sooM_le (nowM σ) f k).1
            refine tr_iload dX8_soonest_48 rfl ?_
            refine tr_aload_n dX8_soonest_50 rfl ?_
            refine tr_getR dX8_soonest_51 fg_RX8_7 (by first | assumption | decide) (by first | assumption | rfl) rfl (by omega) ?_
            refine tr_iload_n dX8_soonest_54 rfl ?_
            refine tr_iald dX8_soonest_55 (by first | assumption | decide) (by first | assumption | rfl) rfl (by omega) (by omega) (by first | assumption | rfl) ?_
            -- at 56: .if_icmp .ge 96
            refine tr_geN (tgt := 152) dX8_soonest_56 (by decide) (by omega) (by omega) (fun h5 => ?_) (fun h5 => ?_)
            · omega
            · refine tr_aload_n dX8_soonest_59 rfl ?_
              refine tr_getR dX8_soonest_60 fg_RX8_26 (by first | assumption | decide) (by first | assumption | rfl) rfl (by omega) ?_
              refine tr_aload_n dX8_soonest_63 rfl ?_
              refine tr_getR dX8_soonest_64 fg_RX8_32 (by first | assumption | decide) (by first | assumption | rfl) rfl (by omega) ?_
              -- at 67: .invokestatic 163
              refine tr_Sv (As := [_, _]) dX8_soonest_67 fm_RX8_163 rfl rfl (Nat.le_of_ble_eq_true rfl) (r_copies isA_105 isA_107 (by omega) hm1) (fun μ2 ⟨e1, e2⟩ => ?_)
              have hs2 := hP.trans e1
              have r3 : μ2.1 101 (40 * j + k) = nI g := by rw [e1.1 101 (by decide), r3, hfg]
              refine tr_aload_n dX8_soonest_70 rfl ?_
              refine tr_aload_n dX8_soonest_71 rfl ?_
              refine tr_getR dX8_soonest_72 fg_RX8_32 (by first | assumption | decide) (by first | assumption | rfl) rfl (by omega) ?_
              refine tr_aload_n dX8_soonest_75 rfl ?_
              refine tr_getR dX8_soonest_76 fg_RX8_13 (by first | assumption | decide) (by first | assumption | rfl) rfl (by omega) ?_
              refine tr_bipush (v := nI 40) dX8_soonest_79 (by decide) ?_
              refine tr_iload_n dX8_soonest_81 rfl ?_
              first | with_reducible refine tr_imulN dX8_soonest_82 ?_ | refine tr_imul dX8_soonest_82 ?_
              refine tr_iload dX8_soonest_83 rfl ?_
              first | with_reducible refine tr_iaddN dX8_soonest_85 ?_ | refine tr_iadd dX8_soonest_85 ?_
              refine tr_iald dX8_soonest_86 (by first | assumption | decide) (by first | assumption | rfl) rfl (by omega) (by omega) (by first | assumption | rfl) ?_
              -- at 87: .invokevirtual 180
              refine tr_Vv (As := [_, _]) dX8_soonest_87 fm_RX8_180 rfl rfl (by first | assumption | decide) (by first | assumption | rfl) (Nat.le_of_ble_eq_true rfl) (r_aims hg isA_107 e2 hw) (fun μ3 ⟨e3, e4⟩ => ?_)
              have hs3 := hs2.trans e3
              refine tr_aload_n dX8_soonest_90 rfl ?_
              refine tr_getR dX8_soonest_91 fg_RX8_32 (by first | assumption | decide) (by first | assumption | rfl) rfl (by omega) ?_
              -- at 94: .invokestatic 174
              refine tr_Si (As := [_]) dX8_soonest_94 fm_RX8_174 rfl rfl (Nat.le_of_ble_eq_true rfl) (r_told isA_107 e4 (aimM_wf _ _ _ h7 hw)) (fun v μ4 ⟨e5, e6, e7⟩ => ?_)
              subst v
              have hs4 := hs3.trans e5
              have es : ∀ b, (tM 61 (aimM (nowM σ 18) g (nowM σ)) < (sooM (nowM σ) f k).2 ↔ b = true) → sooM (nowM σ) f (k + 1) = if b = true then (some k, tM 61 (aimM (nowM σ 18) g (nowM σ))) else sooM (nowM σ) f k := by
                intro b hb
                rw [sooM, hfg, nI_clamp hg]
                by_cases e : b = true
                · rw [if_pos e, if_pos (hb.mpr e)]
                · rw [if_neg e, if_neg (fun q => e (hb.mp q))]
              have htl := tM_le 61 (aimM (nowM σ 18) g (nowM σ))
              generalize tM 61 (aimM (nowM σ 18) g (nowM σ)) = t at *
              have hno : ∀ w6 : Int32, ¬ t < (sooM (nowM σ) f k).2 → tw X (d + 5) kX8_soonest (PM μ (S_soonest σ (nI j))) 117 [.ref 99, .int (nI j), .int (nI am), .int (kdR (sooM (nowM σ) f k).1), .int (nI (sooM (nowM σ) f k).2), .int (nI k), .int w6, w2] [] μ4 := by
                intro w6 hq
                have e := es false (by simp [hq])
                rw [if_neg (by decide)] at e
                have ih' := ih (.int w6) (.int (nI 0)) w3 μ4 rfl rfl c3 hs4
                rw [e] at ih'
                refine tr_iconst (v := nI 0) dX8_soonest_117 (by decide) ?_
                refine tr_istore_7 dX8_soonest_118 (by decide) (by first | rfl | assumption) ?_
                refine tr_iload dX8_soonest_120 rfl ?_
                -- at 122: .ifCond .eq 8
                refine tr_if0N (tgt := 130) dX8_soonest_122 (by decide) (by omega) (fun h8 => ?_) (fun h8 => ?_)
                · refine tr_iload_n dX8_soonest_130 rfl ?_
                  refine tr_istore_n_3 dX8_soonest_131 (by decide) (by first | rfl | assumption) ?_
                  refine tr_iload dX8_soonest_132 rfl ?_
                  -- at 134: .ifCond .eq 8
                  refine tr_if0N (tgt := 142) dX8_soonest_134 (by decide) (by omega) (fun h9 => ?_) (fun h9 => ?_)
                  · refine tr_iload dX8_soonest_142 rfl ?_
                    refine tr_istore_4 dX8_soonest_144 (by decide) (by first | rfl | assumption) ?_
                    first | with_reducible refine tr_iincN_5 dX8_soonest_146 (by decide) rfl ?_ | with_reducible refine tr_iincN_5 dX8_soonest_146 (by decide) (by assumption) ?_ | refine tr_iinc_5 dX8_soonest_146 (by decide) (by first | rfl | assumption) ?_
                    refine tr_goto (tgt := 48) dX8_soonest_149 (by decide) ?_
                    -- at 48: .iload 5
                    exact ih'
                  · exact absurd rfl h9
                · exact absurd rfl h8
              by_cases ht : t < 61
              · rw [if_pos ht]
                refine tr_istore_6 dX8_soonest_97 (by decide) (by first | rfl | assumption) ?_
                refine tr_iload dX8_soonest_99 rfl ?_
                refine tr_bipush (v := -9) dX8_soonest_101 (by decide) ?_
                -- at 103: .if_icmp .eq 14
                refine tr_icmp_eq (tgt := 117) dX8_soonest_103 (by decide) (fun h6 => ?_) (fun h6 => ?_)
                · exact absurd h6 (nI_m9 (by omega))
                · refine tr_iload dX8_soonest_106 rfl ?_
                  refine tr_iload dX8_soonest_108 rfl ?_
                  -- at 110: .if_icmp .ge 7
                  refine tr_geN (tgt := 117) dX8_soonest_110 (by decide) (by omega) (by omega) (fun h8 => ?_) (fun h8 => ?_)
                  · exact hno _ (by omega)
                  · have e := es true (by simp [h8])
                    rw [if_pos rfl] at e
                    have ih' := ih (.int (nI t)) (.int (nI 1)) w3 μ4 rfl rfl c3 hs4
                    rw [e] at ih'
                    refine tr_iconst (v := nI 1) dX8_soonest_113 (by decide) ?_
                    refine tr_goto (tgt := 118) dX8_soonest_114 (by decide) ?_
                    refine tr_istore_7 dX8_soonest_118 (by decide) (by first | rfl | assumption) ?_
                    refine tr_iload dX8_soonest_120 rfl ?_
                    -- at 122: .ifCond .eq 8
                    refine tr_if0N (tgt := 130) dX8_soonest_122 (by decide) (by omega) (fun h9 => ?_) (fun h9 => ?_)
                    · omega
                    · refine tr_iload dX8_soonest_125 rfl ?_
                      refine tr_goto (tgt := 131) dX8_soonest_127 (by decide) ?_
                      refine tr_istore_n_3 dX8_soonest_131 (by decide) (by first | rfl | assumption) ?_
                      refine tr_iload dX8_soonest_132 rfl ?_
                      -- at 134: .ifCond .eq 8
                      refine tr_if0N (tgt := 142) dX8_soonest_134 (by decide) (by omega) (fun h10 => ?_) (fun h10 => ?_)
                      · omega
                      · refine tr_iload dX8_soonest_137 rfl ?_
                        refine tr_goto (tgt := 144) dX8_soonest_139 (by decide) ?_
                        refine tr_istore_4 dX8_soonest_144 (by decide) (by first | rfl | assumption) ?_
                        first | with_reducible refine tr_iincN_5 dX8_soonest_146 (by decide) rfl ?_ | with_reducible refine tr_iincN_5 dX8_soonest_146 (by decide) (by assumption) ?_ | refine tr_iinc_5 dX8_soonest_146 (by decide) (by first | rfl | assumption) ?_
                        refine tr_goto (tgt := 48) dX8_soonest_149 (by decide) ?_
                        -- at 48: .iload 5
                        exact ih'
              · rw [if_neg ht]
                refine tr_istore_6 dX8_soonest_97 (by decide) (by first | rfl | assumption) ?_
                refine tr_iload dX8_soonest_99 rfl ?_
                refine tr_bipush (v := -9) dX8_soonest_101 (by decide) ?_
                -- at 103: .if_icmp .eq 14
                refine tr_icmp_eq (tgt := 117) dX8_soonest_103 (by decide) (fun h6 => ?_) (fun h6 => ?_)
                · exact hno _ (by omega)
                · exact absurd rfl h6
          · have hM1 := h.same107 hP
            have hX1 := hM1.1 j hj
            rw [ho] at hX1
            have r1 := hX1.1
            have h14 := hM1.2.2.2.2.2.2.1
            have hsl := (sooM_le (nowM σ) f n).2
            have hf := fq107 hP
            refine tr_iload dX8_soonest_48 rfl ?_
            refine tr_aload_n dX8_soonest_50 rfl ?_
            refine tr_getR dX8_soonest_51 fg_RX8_7 (by first | assumption | decide) (by first | assumption | rfl) rfl (by omega) ?_
            refine tr_iload_n dX8_soonest_54 rfl ?_
            refine tr_iald dX8_soonest_55 (by first | assumption | decide) (by first | assumption | rfl) rfl (by omega) (by omega) (by first | assumption | rfl) ?_
            -- at 56: .if_icmp .ge 96
            refine tr_geN (tgt := 152) dX8_soonest_56 (by decide) (by omega) (by omega) (fun h5 => ?_) (fun h5 => ?_)
            · refine tr_aload_n dX8_soonest_152 rfl ?_
              refine tr_iload_n dX8_soonest_153 rfl ?_
              refine tr_bipush (v := -9) dX8_soonest_154 (by decide) ?_
              -- at 156: .if_icmp .ne 10
              cases hs : (sooM (nowM σ) f n).1 with
              | none =>
                refine tr_icmp_ne (tgt := 166) dX8_soonest_156 (by decide) (fun h6 => ?_) (fun h6 => ?_)
                · exact absurd rfl h6
                · refine tr_aload_n dX8_soonest_159 rfl ?_
                  refine tr_getI dX8_soonest_160 fg_RX8_70 (by first | assumption | decide) (by first | assumption | rfl) rfl (by first | assumption | rfl) ?_
                  refine tr_goto (tgt := 168) dX8_soonest_163 (by decide) ?_
                  refine tr_putI dX8_soonest_168 fp_RX8_70 (by first | assumption | decide) (by first | assumption | rfl) rfl ?_
                  refine tr_iload_n dX8_soonest_171 rfl ?_
                  -- at 172: .ireturn
                  refine tr_iret dX8_soonest_172 (by first | exact trivial | rfl) (pm_e (q := (-9, σ)) (by simp only [S_soonest, hr, em, ho, hs]) rfl (hM1.asked (sA σ)) (hf.trans (((sP.rf (fun b => b = 99) μ1).put _ rfl).fq (fun b hb => by omega))))
              | some i =>
                have hi := hsl i hs
                refine tr_icmp_ne (tgt := 166) dX8_soonest_156 (by decide) (fun h6 => ?_) (fun h6 => ?_)
                · refine tr_iload dX8_soonest_166 rfl ?_
                  refine tr_putI dX8_soonest_168 fp_RX8_70 (by first | assumption | decide) (by first | assumption | rfl) rfl ?_
                  refine tr_iload_n dX8_soonest_171 rfl ?_
                  -- at 172: .ireturn
                  refine tr_iret dX8_soonest_172 (by first | exact trivial | rfl) (pm_e (q := (nI i, gA σ (nI (sooM (nowM σ) f n).2))) (by simp only [S_soonest, hr, em, ho, hs]) rfl (hM1.asked _) (hf.trans (((sP.rf (fun b => b = 99) μ1).put _ rfl).fq (fun b hb => by omega))))
                · exact absurd h6 (nI_m9 (by omega))
            · omega
        · have em : mref σ j = some (-3, gF σ (amC σ j)) := by rw [mref_am h3, if_neg h4]
          refine tr_aload_n dX8_soonest_32 rfl ?_
          refine tr_iload_n dX8_soonest_33 rfl ?_
          -- at 34: .invokevirtual 81
          refine tr_Vi (As := [_]) dX8_soonest_34 fm_RX8_81 rfl rfl (by first | assumption | decide) (by first | assumption | rfl) (Nat.le_of_ble_eq_true rfl) (r_finds hlt h) (fun v μ1 ⟨e1, e2, e3⟩ => ?_)
          refine tr_iret dX8_soonest_37 (by first | exact trivial | rfl) (pm_e (by simp only [S_soonest, hr, em]) e1 e2 e3)
      · have em : mref σ j = some (-4, σ) := by rw [mref, if_pos h3]
        refine tr_bipush (v := -4) dX8_soonest_19 (by decide) ?_
        exact tr_iret dX8_soonest_21 (by first | exact trivial | rfl) (pm_same h (by simp only [S_soonest, hr, em]))
    · cases h1
theorem r_fitting {pl hi : Nat} (h : MI μ σ) (hW : WI σ) (hj : j < 6) (ho : sR σ j = some (n, f)) (hi10 : hi < 10) (hpl : pl + i < 33) (hi7 : i < 7) (hwv : ∀ v, v ≤ hi → wfc (nu (nowM σ) (pl + i) v)) : cp X (d + 5) kX8_fitting [.ref 99, .int (nI pl), .int (nI hi), .int (nI i), .int (nI j)] μ (qi (fun v μ' => same μ μ' [107] ∧ v = nI (fitM pl (nowM σ) i n f (hi + 1)))) := by
  refine cp_of ok_X8_fitting (L := [.ref 99, .int (nI pl), .int (nI hi), .int (nI i), .int (nI j), .float 0, .float 0, .float 0, .float 0]) rfl ?_
  refine tr_iconst (v := nI 0) dX8_fitting_0 (by decide) ?_
  refine tr_istore_5 dX8_fitting_1 (by decide) (by first | rfl | assumption) ?_
  refine tr_iconst (v := nI 0) dX8_fitting_3 (by decide) ?_
  refine tr_istore_6 dX8_fitting_4 (by decide) (by first | rfl | assumption) ?_
  -- at 6: .iload 6
  refine tw_for3 (n := hi + 1) (Lf := fun k w1 w2 _ => [.ref 99, .int (nI pl), .int (nI hi), .int (nI i), .int (nI j), .int (nI (fitM pl (nowM σ) i n f k)), .int (nI k), w1, w2]) (P := fun k μ1 => same μ μ1 [107]) (fun k w1 w2 w3 μ1 c1 c2 c3 hk hP ih => ?_) (fun w1 w2 w3 μ1 c1 c2 c3 hP => ?_) 0 (.float 0) (.float 0) (.float 0) _ (by omega) rfl rfl rfl (same.rf μ _)
  · have hM1 := h.same107 hP
    have hm1 := hM1.2.2.1
    have hw0 := hwv k (by omega)
    have hfl := fitM_lt pl (nowM σ) i n f k
    have ih' := fun a b μ' hc => ih (.int a) (.int b) w3 μ' rfl rfl c3 hc
    rw [show fitM pl (nowM σ) i n f (k + 1) = fitM pl (nowM σ) i n f k + (if shM i f n 0 (nu (nowM σ) (pl + i) k) = true then 2 ^ k else 0) from rfl, shM_P] at ih'
    refine tr_iload dX8_fitting_6 rfl ?_
    refine tr_iload_n dX8_fitting_8 rfl ?_
    -- at 9: .if_icmp .gt 116
    refine tr_gtN (tgt := 125) dX8_fitting_9 (by decide) (by omega) (by omega) (fun h1 => ?_) (fun h1 => ?_)
    · omega
    · refine tr_aload_n dX8_fitting_12 rfl ?_
      refine tr_getR dX8_fitting_13 fg_RX8_26 (by first | assumption | decide) (by first | assumption | rfl) rfl (by omega) ?_
      refine tr_aload_n dX8_fitting_16 rfl ?_
      refine tr_getR dX8_fitting_17 fg_RX8_32 (by first | assumption | decide) (by first | assumption | rfl) rfl (by omega) ?_
      -- at 20: .invokestatic 163
      refine tr_Sv (As := [_, _]) dX8_fitting_20 fm_RX8_163 rfl rfl (Nat.le_of_ble_eq_true rfl) (r_copies isA_105 isA_107 (by omega) hm1) (fun μ2 ⟨e1, e2⟩ => ?_)
      refine tr_aload_n dX8_fitting_23 rfl ?_
      refine tr_getR dX8_fitting_24 fg_RX8_32 (by first | assumption | decide) (by first | assumption | rfl) rfl (by omega) ?_
      refine tr_iload_n dX8_fitting_27 rfl ?_
      refine tr_iload_n dX8_fitting_28 rfl ?_
      first | with_reducible refine tr_iaddN dX8_fitting_29 ?_ | refine tr_iadd dX8_fitting_29 ?_
      refine tr_iload dX8_fitting_30 rfl ?_
      refine tr_iast dX8_fitting_32 (by first | assumption | decide) (by first | assumption | rfl) rfl (by omega) (by omega) ?_
      -- at 33: .iconst 1
      have hr2 := e2.set (pl + i) k
      have hs2 := (hP.trans e1).put (a := 107) (upd (μ2.1 107) (pl + i) (nI k)) (by simp)
      generalize sI μ2 107 (upd (μ2.1 107) (pl + i) (nI k)) = μ3 at hr2 hs2 ⊢
      generalize nu (nowM σ) (pl + i) k = c0 at *
      refine tr_iconst (v := nI 1) dX8_fitting_33 (by decide) ?_
      refine tr_istore_7 dX8_fitting_34 (by decide) (by first | rfl | assumption) ?_
      refine tr_iconst (v := nI 0) dX8_fitting_36 (by decide) ?_
      refine tr_istore_8 dX8_fitting_37 (by decide) (by first | rfl | assumption) ?_
      -- at 39: .iload 8
      refine tw_for (n := n) (Lf := fun t => [.ref 99, .int (nI pl), .int (nI hi), .int (nI i), .int (nI j), .int (nI (fitM pl (nowM σ) i n f k)), .int (nI k), .int (nI (bN (shP c0 i f t))), .int (nI t)]) (P := fun t μ4 => same μ μ4 [107] ∧ MR μ4 107 (goI t c0)) (fun t μ4 ht hP2 ih2 => ?_) (fun μ4 hP2 => ?_) 0 _ (by omega) ⟨hs2, hr2⟩
      · obtain ⟨p1, p2⟩ := hP2
        have hX1 := (h.same107 p1).1 j hj
        rw [ho] at hX1
        have r1 := hX1.1
        have r2 := hX1.2.1
        refine tr_iload dX8_fitting_39 rfl ?_
        refine tr_aload_n dX8_fitting_41 rfl ?_
        refine tr_getR dX8_fitting_42 fg_RX8_7 (by first | assumption | decide) (by first | assumption | rfl) rfl (by omega) ?_
        refine tr_iload dX8_fitting_45 rfl ?_
        refine tr_iald dX8_fitting_47 (by first | assumption | decide) (by first | assumption | rfl) rfl (by omega) (by omega) (by first | assumption | rfl) ?_
        -- at 48: .if_icmp .ge 53
        refine tr_geN (tgt := 101) dX8_fitting_48 (by decide) (by omega) (by omega) (fun h2 => ?_) (fun h2 => ?_)
        · omega
        · refine tr_aload_n dX8_fitting_51 rfl ?_
          refine tr_getR dX8_fitting_52 fg_RX8_32 (by first | assumption | decide) (by first | assumption | rfl) rfl (by omega) ?_
          -- at 55: .invokestatic 153
          refine tr_Si (As := [_]) dX8_fitting_55 fm_RX8_153 rfl rfl (Nat.le_of_ble_eq_true rfl) (r_goes isA_107 p2 (goI_wf _ _ hw0)) (fun v μ5 ⟨u1, u2, u3⟩ => ?_)
          rw [goI_s] at u2
          have ih3 := ih2 μ5 ⟨p1.trans u1, u2⟩
          rw [show shP c0 i f (t + 1) = (shP c0 i f t && decide (nI (goI (t + 1) c0 (4 + i)) = f t)) from rfl] at ih3
          have hX5 := (h.same107 (p1.trans u1)).1 j hj
          rw [ho] at hX5
          have r5 := hX5.2.2 t ht
          have k4 := u2 (4 + i) (by omega)
          refine tr_pop dX8_fitting_58 rfl ?_
          refine tr_iload dX8_fitting_59 rfl ?_
          -- at 61: .ifCond .eq 31
          refine tr_ifb0 (tgt := 92) dX8_fitting_61 (by decide) (fun h3 => ?_) (fun h3 => ?_)
          · rw [h3] at ih3
            refine tr_iconst (v := nI 0) dX8_fitting_92 (by decide) ?_
            refine tr_istore_7 dX8_fitting_93 (by decide) (by first | rfl | assumption) ?_
            first | with_reducible refine tr_iincN_8 dX8_fitting_95 (by decide) rfl ?_ | with_reducible refine tr_iincN_8 dX8_fitting_95 (by decide) (by assumption) ?_ | refine tr_iinc_8 dX8_fitting_95 (by decide) (by first | rfl | assumption) ?_
            refine tr_goto (tgt := 39) dX8_fitting_98 (by decide) ?_
            -- at 39: .iload 8
            exact ih3
          · rw [h3, Bool.true_and] at ih3
            refine tr_aload_n dX8_fitting_64 rfl ?_
            refine tr_getR dX8_fitting_65 fg_RX8_32 (by first | assumption | decide) (by first | assumption | rfl) rfl (by omega) ?_
            refine tr_iconst (v := nI 4) dX8_fitting_68 (by decide) ?_
            refine tr_iload_n dX8_fitting_69 rfl ?_
            first | with_reducible refine tr_iaddN dX8_fitting_70 ?_ | refine tr_iadd dX8_fitting_70 ?_
            refine tr_iald dX8_fitting_71 (by first | assumption | decide) (by first | assumption | rfl) rfl (by omega) (by omega) (by first | assumption | rfl) ?_
            refine tr_aload_n dX8_fitting_72 rfl ?_
            refine tr_getR dX8_fitting_73 fg_RX8_13 (by first | assumption | decide) (by first | assumption | rfl) rfl (by omega) ?_
            refine tr_bipush (v := nI 40) dX8_fitting_76 (by decide) ?_
            refine tr_iload dX8_fitting_78 rfl ?_
            first | with_reducible refine tr_imulN dX8_fitting_80 ?_ | refine tr_imul dX8_fitting_80 ?_
            refine tr_iload dX8_fitting_81 rfl ?_
            first | with_reducible refine tr_iaddN dX8_fitting_83 ?_ | refine tr_iadd dX8_fitting_83 ?_
            refine tr_iald dX8_fitting_84 (by first | assumption | decide) (by first | assumption | rfl) rfl (by omega) (by omega) (by first | assumption | rfl) ?_
            -- at 85: .if_icmp .ne 7
            refine tr_icmp_ne (tgt := 92) dX8_fitting_85 (by decide) (fun h4 => ?_) (fun h4 => ?_)
            · rw [decide_eq_false h4] at ih3
              refine tr_iconst (v := nI 0) dX8_fitting_92 (by decide) ?_
              refine tr_istore_7 dX8_fitting_93 (by decide) (by first | rfl | assumption) ?_
              first | with_reducible refine tr_iincN_8 dX8_fitting_95 (by decide) rfl ?_ | with_reducible refine tr_iincN_8 dX8_fitting_95 (by decide) (by assumption) ?_ | refine tr_iinc_8 dX8_fitting_95 (by decide) (by first | rfl | assumption) ?_
              refine tr_goto (tgt := 39) dX8_fitting_98 (by decide) ?_
              -- at 39: .iload 8
              exact ih3
            · rw [decide_eq_true h4] at ih3
              refine tr_iconst (v := nI 1) dX8_fitting_88 (by decide) ?_
              refine tr_goto (tgt := 93) dX8_fitting_89 (by decide) ?_
              refine tr_istore_7 dX8_fitting_93 (by decide) (by first | rfl | assumption) ?_
              first | with_reducible refine tr_iincN_8 dX8_fitting_95 (by decide) rfl ?_ | with_reducible refine tr_iincN_8 dX8_fitting_95 (by decide) (by assumption) ?_ | refine tr_iinc_8 dX8_fitting_95 (by decide) (by first | rfl | assumption) ?_
              refine tr_goto (tgt := 39) dX8_fitting_98 (by decide) ?_
              -- at 39: .iload 8
              exact ih3
      · obtain ⟨p1, p2⟩ := hP2
        have hX1 := (h.same107 p1).1 j hj
        rw [ho] at hX1
        have r1 := hX1.1
        have r2 := hX1.2.1
        refine tr_iload dX8_fitting_39 rfl ?_
        refine tr_aload_n dX8_fitting_41 rfl ?_
        refine tr_getR dX8_fitting_42 fg_RX8_7 (by first | assumption | decide) (by first | assumption | rfl) rfl (by omega) ?_
        refine tr_iload dX8_fitting_45 rfl ?_
        refine tr_iald dX8_fitting_47 (by first | assumption | decide) (by first | assumption | rfl) rfl (by omega) (by omega) (by first | assumption | rfl) ?_
        -- at 48: .if_icmp .ge 53
        refine tr_geN (tgt := 101) dX8_fitting_48 (by decide) (by omega) (by omega) (fun h2 => ?_) (fun h2 => ?_)
        · refine tr_iload dX8_fitting_101 rfl ?_
          refine tr_iload dX8_fitting_103 rfl ?_
          -- at 105: .ifCond .eq 10
          refine tr_ifb0 (tgt := 115) dX8_fitting_105 (by decide) (fun h3 => ?_) (fun h3 => ?_)
          · rw [h3, if_neg (by decide)] at ih'
            refine tr_iconst (v := nI 0) dX8_fitting_115 (by decide) ?_
            refine tr_ior dX8_fitting_116 ?_
            -- at 117: .istore 5
            refine tr_v (y := nI (fitM pl (nowM σ) i n f k + 0)) (by rw [Nat.add_zero]; show nI _ ||| 0 = _; exact Int32.or_zero) ?_
            refine tr_istore_5 dX8_fitting_117 (by decide) (by first | rfl | assumption) ?_
            first | with_reducible refine tr_iincN_6 dX8_fitting_119 (by decide) rfl ?_ | with_reducible refine tr_iincN_6 dX8_fitting_119 (by decide) (by assumption) ?_ | refine tr_iinc_6 dX8_fitting_119 (by decide) (by first | rfl | assumption) ?_
            refine tr_goto (tgt := 6) dX8_fitting_122 (by decide) ?_
            -- at 6: .iload 6
            exact ih' _ _ _ p1
          · rw [h3, if_pos rfl] at ih'
            refine tr_iconst (v := nI 1) dX8_fitting_108 (by decide) ?_
            refine tr_iload dX8_fitting_109 rfl ?_
            refine tr_ishl dX8_fitting_111 ?_
            refine tr_goto (tgt := 116) dX8_fitting_112 (by decide) ?_
            refine tr_ior dX8_fitting_116 ?_
            -- at 117: .istore 5
            refine tr_v (or_bit10b k (by omega) _ hfl) ?_
            refine tr_istore_5 dX8_fitting_117 (by decide) (by first | rfl | assumption) ?_
            first | with_reducible refine tr_iincN_6 dX8_fitting_119 (by decide) rfl ?_ | with_reducible refine tr_iincN_6 dX8_fitting_119 (by decide) (by assumption) ?_ | refine tr_iinc_6 dX8_fitting_119 (by decide) (by first | rfl | assumption) ?_
            refine tr_goto (tgt := 6) dX8_fitting_122 (by decide) ?_
            -- at 6: .iload 6
            exact ih' _ _ _ p1
        · omega
  · refine tr_iload dX8_fitting_6 rfl ?_
    refine tr_iload_n dX8_fitting_8 rfl ?_
    -- at 9: .if_icmp .gt 116
    refine tr_gtN (tgt := 125) dX8_fitting_9 (by decide) (by omega) (by omega) (fun h1 => ?_) (fun h1 => ?_)
    · refine tr_iload dX8_fitting_125 rfl ?_
      -- at 127: .ireturn
      refine tr_iret dX8_fitting_127 (by first | exact trivial | rfl) ⟨hP, rfl⟩
    · omega
theorem r_kinds (h : MI μ σ) (hW : WI σ) : cp X (d + 6) kX8_kinds [.ref 99, .int x, .int r] μ (PM μ (S_kinds σ x r)) := by
  have hw := hW.now
  have h7 := hw.1
  refine cp_of ok_X8_kinds (L := [.ref 99, .int x, .int r, .float 0]) rfl ?_
  refine tr_aload_n dX8_kinds_0 rfl ?_
  refine tr_iload_n dX8_kinds_1 rfl ?_
  -- at 2: .invokevirtual 126
  refine tr_Vi (As := [_]) dX8_kinds_2 fm_RX8_126 rfl rfl (by first | assumption | decide) (by first | assumption | rfl) (Nat.le_of_ble_eq_true rfl) (r_isDrum h h7) (fun v μ1 ⟨e1, e2⟩ => ?_)
  subst μ1; subst v
  cases hx : ixV x (nowM σ 18) with
  | none =>
    have es : sref σ x r = some (-1, σ) := by simp only [sref, hx]
    refine tr_ifb0 (tgt := 15) dX8_kinds_5 (by decide) (fun h1 => ?_) (fun h1 => ?_)
    · refine tr_iconst (v := -1) dX8_kinds_15 (by decide) ?_
      exact tr_iret dX8_kinds_16 (by first | exact trivial | rfl) (pm_same h (by simp only [S_kinds, es]))
    · cases h1
  | some i =>
    obtain ⟨rfl, hi⟩ := ixV_some (by omega) hx
    refine tr_ifb0 (tgt := 15) dX8_kinds_5 (by decide) (fun h1 => ?_) (fun h1 => ?_)
    · cases h1
    · refine tr_iload_n dX8_kinds_8 rfl ?_
      -- at 9: .invokestatic 77
      refine tr_Si (As := [_]) dX8_kinds_9 fm_RX8_77 rfl rfl (Nat.le_of_ble_eq_true rfl) (r_isRow) (fun v μ1 ⟨e1, e2⟩ => ?_)
      subst μ1; subst v
      cases hr : ixV r 6 with
      | none =>
        have es : sref σ (nI i) r = some (-1, σ) := by simp only [sref, hx, hr]
        refine tr_ifb1 (tgt := 17) dX8_kinds_12 (by decide) (fun h2 => ?_) (fun h2 => ?_)
        · cases h2
        · refine tr_iconst (v := -1) dX8_kinds_15 (by decide) ?_
          exact tr_iret dX8_kinds_16 (by first | exact trivial | rfl) (pm_same h (by simp only [S_kinds, es]))
      | some j =>
        obtain ⟨rfl, hj⟩ := ixV_some (by omega) hr
        have hlt := unC_lt σ j
        refine tr_ifb1 (tgt := 17) dX8_kinds_12 (by decide) (fun h2 => ?_) (fun h2 => ?_)
        · refine tr_aload_n dX8_kinds_17 rfl ?_
          refine tr_iload_n dX8_kinds_18 rfl ?_
          -- at 19: .invokevirtual 184
          refine tr_Vi (As := [_]) dX8_kinds_19 fm_RX8_184 rfl rfl (by first | assumption | decide) (by first | assumption | rfl) (Nat.le_of_ble_eq_true rfl) (r_unfit h hj) (fun v μ1 ⟨e1, e2⟩ => ?_)
          subst μ1; subst v
          refine tr_istore_n_3 dX8_kinds_22 (by decide) (by first | rfl | assumption) ?_
          refine tr_iload_n dX8_kinds_23 rfl ?_
          -- at 24: .ifCond .eq 11
          refine tr_if0N (tgt := 35) dX8_kinds_24 (by decide) (by omega) (fun h4 => ?_) (fun h4 => ?_)
          · have es : sref σ (nI i) (nI j) = none := by rw [sref_un hi h7 hj, if_pos h4]
            obtain ⟨i', j', n, f, q1, q2, q3, q4, ho, q6, q7, q8⟩ := sref_none es h7
            rw [nI_eq (by omega) (by omega)] at q1 q3
            subst q1; subst q3
            refine tr_aload_n dX8_kinds_35 rfl ?_
            refine tr_bipush (v := nI 19) dX8_kinds_36 (by decide) ?_
            refine tr_iconst (v := nI 5) dX8_kinds_38 (by decide) ?_
            refine tr_iload_n dX8_kinds_39 rfl ?_
            refine tr_iload_n dX8_kinds_40 rfl ?_
            -- at 41: .invokevirtual 187
            refine tr_Vi (As := [_, _, _, _]) dX8_kinds_41 fm_RX8_187 rfl rfl (by first | assumption | decide) (by first | assumption | rfl) (Nat.le_of_ble_eq_true rfl) (r_fitting h hW hj ho (by omega) (by omega) (by omega) (fun v hv => hw.kind (by omega) (by omega))) (fun v μ1 ⟨e1, e2⟩ => ?_)
            refine tr_iret dX8_kinds_44 (by first | exact trivial | rfl) (pm_e (q := (nI (fitM 19 (nowM σ) i n f 6), σ)) (by simp only [S_kinds, es, nI_clamp (show i < 2 ^ 31 by omega), nI_clamp (show j < 2 ^ 31 by omega), ho]) e2 (h.same107 e1) (fq107 e1))
          · have es : sref σ (nI i) (nI j) = some (-3, gF σ (unC σ j)) := by rw [sref_un hi h7 hj, if_neg h4]
            refine tr_aload_n dX8_kinds_27 rfl ?_
            refine tr_iload_n dX8_kinds_28 rfl ?_
            -- at 29: .invokevirtual 81
            refine tr_Vi (As := [_]) dX8_kinds_29 fm_RX8_81 rfl rfl (by first | assumption | decide) (by first | assumption | rfl) (Nat.le_of_ble_eq_true rfl) (r_finds hlt h) (fun v μ1 ⟨e1, e2, e3⟩ => ?_)
            refine tr_goto (tgt := 44) dX8_kinds_32 (by decide) ?_
            -- at 44: .ireturn
            refine tr_iret dX8_kinds_44 (by first | exact trivial | rfl) (pm_e (by simp only [S_kinds, es]) e1 e2 e3)
        · cases h2
theorem r_marks (h : MI μ σ) (hW : WI σ) : cp X (d + 6) kX8_marks [.ref 99, .int x, .int r] μ (PM μ (S_marks σ x r)) := by
  have hw := hW.now
  have h7 := hw.1
  refine cp_of ok_X8_marks (L := [.ref 99, .int x, .int r, .float 0]) rfl ?_
  refine tr_aload_n dX8_marks_0 rfl ?_
  refine tr_iload_n dX8_marks_1 rfl ?_
  -- at 2: .invokevirtual 126
  refine tr_Vi (As := [_]) dX8_marks_2 fm_RX8_126 rfl rfl (by first | assumption | decide) (by first | assumption | rfl) (Nat.le_of_ble_eq_true rfl) (r_isDrum h h7) (fun v μ1 ⟨e1, e2⟩ => ?_)
  subst μ1; subst v
  cases hx : ixV x (nowM σ 18) with
  | none =>
    have es : sref σ x r = some (-1, σ) := by simp only [sref, hx]
    refine tr_ifb0 (tgt := 15) dX8_marks_5 (by decide) (fun h1 => ?_) (fun h1 => ?_)
    · refine tr_iconst (v := -1) dX8_marks_15 (by decide) ?_
      exact tr_iret dX8_marks_16 (by first | exact trivial | rfl) (pm_same h (by simp only [S_marks, es]))
    · cases h1
  | some i =>
    obtain ⟨rfl, hi⟩ := ixV_some (by omega) hx
    refine tr_ifb0 (tgt := 15) dX8_marks_5 (by decide) (fun h1 => ?_) (fun h1 => ?_)
    · cases h1
    · refine tr_iload_n dX8_marks_8 rfl ?_
      -- at 9: .invokestatic 77
      refine tr_Si (As := [_]) dX8_marks_9 fm_RX8_77 rfl rfl (Nat.le_of_ble_eq_true rfl) (r_isRow) (fun v μ1 ⟨e1, e2⟩ => ?_)
      subst μ1; subst v
      cases hr : ixV r 6 with
      | none =>
        have es : sref σ (nI i) r = some (-1, σ) := by simp only [sref, hx, hr]
        refine tr_ifb1 (tgt := 17) dX8_marks_12 (by decide) (fun h2 => ?_) (fun h2 => ?_)
        · cases h2
        · refine tr_iconst (v := -1) dX8_marks_15 (by decide) ?_
          exact tr_iret dX8_marks_16 (by first | exact trivial | rfl) (pm_same h (by simp only [S_marks, es]))
      | some j =>
        obtain ⟨rfl, hj⟩ := ixV_some (by omega) hr
        have hlt := unC_lt σ j
        refine tr_ifb1 (tgt := 17) dX8_marks_12 (by decide) (fun h2 => ?_) (fun h2 => ?_)
        · refine tr_aload_n dX8_marks_17 rfl ?_
          refine tr_iload_n dX8_marks_18 rfl ?_
          -- at 19: .invokevirtual 184
          refine tr_Vi (As := [_]) dX8_marks_19 fm_RX8_184 rfl rfl (by first | assumption | decide) (by first | assumption | rfl) (Nat.le_of_ble_eq_true rfl) (r_unfit h hj) (fun v μ1 ⟨e1, e2⟩ => ?_)
          subst μ1; subst v
          refine tr_istore_n_3 dX8_marks_22 (by decide) (by first | rfl | assumption) ?_
          refine tr_iload_n dX8_marks_23 rfl ?_
          -- at 24: .ifCond .eq 11
          refine tr_if0N (tgt := 35) dX8_marks_24 (by decide) (by omega) (fun h4 => ?_) (fun h4 => ?_)
          · have es : sref σ (nI i) (nI j) = none := by rw [sref_un hi h7 hj, if_pos h4]
            obtain ⟨i', j', n, f, q1, q2, q3, q4, ho, q6, q7, q8⟩ := sref_none es h7
            rw [nI_eq (by omega) (by omega)] at q1 q3
            subst q1; subst q3
            refine tr_aload_n dX8_marks_35 rfl ?_
            refine tr_bipush (v := nI 26) dX8_marks_36 (by decide) ?_
            refine tr_bipush (v := nI 9) dX8_marks_38 (by decide) ?_
            refine tr_iload_n dX8_marks_40 rfl ?_
            refine tr_iload_n dX8_marks_41 rfl ?_
            -- at 42: .invokevirtual 187
            refine tr_Vi (As := [_, _, _, _]) dX8_marks_42 fm_RX8_187 rfl rfl (by first | assumption | decide) (by first | assumption | rfl) (Nat.le_of_ble_eq_true rfl) (r_fitting h hW hj ho (by omega) (by omega) (by omega) (fun v hv => hw.mark (by omega) (by omega))) (fun v μ1 ⟨e1, e2⟩ => ?_)
            refine tr_iret dX8_marks_45 (by first | exact trivial | rfl) (pm_e (q := (nI (fitM 26 (nowM σ) i n f 10), σ)) (by simp only [S_marks, es, nI_clamp (show i < 2 ^ 31 by omega), nI_clamp (show j < 2 ^ 31 by omega), ho]) e2 (h.same107 e1) (fq107 e1))
          · have es : sref σ (nI i) (nI j) = some (-3, gF σ (unC σ j)) := by rw [sref_un hi h7 hj, if_neg h4]
            refine tr_aload_n dX8_marks_27 rfl ?_
            refine tr_iload_n dX8_marks_28 rfl ?_
            -- at 29: .invokevirtual 81
            refine tr_Vi (As := [_]) dX8_marks_29 fm_RX8_81 rfl rfl (by first | assumption | decide) (by first | assumption | rfl) (Nat.le_of_ble_eq_true rfl) (r_finds hlt h) (fun v μ1 ⟨e1, e2, e3⟩ => ?_)
            refine tr_goto (tgt := 45) dX8_marks_32 (by decide) ?_
            -- at 45: .ireturn
            refine tr_iret dX8_marks_45 (by first | exact trivial | rfl) (pm_e (by simp only [S_marks, es]) e1 e2 e3)
        · cases h2
end M10
