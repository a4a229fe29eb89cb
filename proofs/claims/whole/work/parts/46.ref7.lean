-- ===== the reference: reads, fault, board, later, ends, passes, least =====
theorem MI.board {μ μ' : am_M} {σ : SG} {c : NF} (h : MI μ σ) (hs : sP (fun b => b = 99 ∨ b = 105 ∨ b = 106 ∨ b = 112) μ μ') (hc : MR μ' 105 c) (h99 : μ'.1 99 = upd (μ.1 99) 10 (nI 0)) (h99J : μ'.2 99 = μ.2 99) (hk : ∀ k, k < 3 → μ'.1 112 k = -1) : MI μ' (gS σ c) := by
  obtain ⟨h1, h2, h3, h4, h5, h6, h7, h8, h9, h10, h11⟩ := h
  have hn : ∀ b, ¬ (b = 99 ∨ b = 105 ∨ b = 106 ∨ b = 112) → μ'.1 b = μ.1 b ∧ μ'.2 b = μ.2 b := hs
  exact ⟨fun r hr => (h1 r hr).kept (hn _ (by omega)).1 (hn _ (by omega)).1, fun t ht => (h2 t ht).kept (hn _ (by omega)).1 (hn _ (by omega)).1, hc, by rw [h99, pk_us]; rfl, fun n hn => absurd hn (Nat.not_lt_zero n), fun k hk2 => ⟨hk k hk2, fun l hl => by cases hl⟩, by rw [h99, pk_un (by omega)]; exact h7, by rw [h99, pk_un (by omega)]; exact h8, fun f hf => by rw [(hn 113 (by omega)).1]; exact h9 f hf, by rw [h99J]; exact h10, by rw [h99J]; exact h11⟩
section M7
variable {X : Nat × (Nat → Int32)} {d : Nat} {μ : am_M} {σ : SG} {a b i j n p : Nat} {c : NF} {r x y z w : Int32} {f : Nat → Int32}
theorem RX.put106 {K : Nat} {a b r : Nat} {o : RV} (h : RX K μ a b r o) (ha : a ≠ 106) (hb : b ≠ 106) (g : Nat → Int32) : RX K (sI μ 106 g) a b r o := h.kept (sI_ne _ _ ha) (sI_ne _ _ hb)
theorem l_reads (hj : j < 4) (hn : n ≤ 60) : ∀ (m p : Nat) (c : NF) (w3 w4 w5 : Value) (μ : am_M), w3.category = 1 → w4.category = 1 → c 18 + m = 8 → 1 ≤ m → p ≤ n → wfc c → MR μ 106 c → RX 60 μ 103 104 j (some (n, f)) → tw X (d + 2) kX8_reads (qi (fun v μ' => sP (fun b => b = 106) μ μ' ∧ v = kdR (rdL n f m p c).1 ∧ ((rdL n f m p c).1 = none → MR μ' 106 (rdL n f m p c).2))) 70 [.ref 99, .int (nI j), .int (nI p), w3, w4, w5] [] μ
  | m, p, c, w3, w4, w5, μ, hw3, hw4, hcm, hm, hp, hw, hr, hx => by
    have r1 := hx.1
    have r2 := hx.2.1
    have k18 := hr 18 (by omega)
    have hw1 := hw.1
    obtain ⟨m', rfl⟩ : ∃ m', m = m' + 1 := ⟨m - 1, by omega⟩
    refine tr_iload_n dX8_reads_70 rfl ?_
    refine tr_aload_n dX8_reads_71 rfl ?_
    refine tr_getR dX8_reads_72 fg_RX8_19 (by first | assumption | decide) (by first | assumption | rfl) rfl (by omega) ?_
    refine tr_iload_n dX8_reads_75 rfl ?_
    refine tr_iald dX8_reads_76 (by first | assumption | decide) (by first | assumption | rfl) rfl (by omega) (by omega) (by first | assumption | rfl) ?_
    -- at 77: .if_icmp .ge 166
    refine tr_geN (tgt := 243) dX8_reads_77 (by decide) (by omega) (by omega) (fun h1 => ?_) (fun h1 => ?_)
    · refine tr_aload_n dX8_reads_243 rfl ?_
      refine tr_getR dX8_reads_244 fg_RX8_29 (by first | assumption | decide) (by first | assumption | rfl) rfl (by omega) ?_
      refine tr_bipush (v := nI 18) dX8_reads_247 (by decide) ?_
      refine tr_iald dX8_reads_249 (by first | assumption | decide) (by first | assumption | rfl) rfl (by omega) (by omega) (by first | assumption | rfl) ?_
      refine tr_iconst (v := nI 2) dX8_reads_250 (by decide) ?_
      -- at 251: .if_icmp .ge 7
      refine tr_geN (tgt := 258) dX8_reads_251 (by decide) (by omega) (by omega) (fun h2 => ?_) (fun h2 => ?_)
      · have e : rdL n f (m' + 1) p c = (none, c) := by rw [rdL, if_neg (by omega), if_neg (by omega)]
        refine tr_bipush (v := -9) dX8_reads_258 (by decide) ?_
        -- at 260: .ireturn
        refine tr_iret dX8_reads_260 (by first | exact trivial | rfl) ⟨sP.rf _ μ, by rw [e]; rfl, fun q => by rw [e]; exact hr⟩
      · have e : rdL n f (m' + 1) p c = (some p, c) := by rw [rdL, if_neg (by omega), if_pos h2]
        refine tr_iload_n dX8_reads_254 rfl ?_
        refine tr_goto (tgt := 260) dX8_reads_255 (by decide) ?_
        -- at 260: .ireturn
        refine tr_iret dX8_reads_260 (by first | exact trivial | rfl) ⟨sP.rf _ μ, by rw [e]; rfl, fun q => by rw [e] at q; cases q⟩
    · refine tr_aload_n dX8_reads_80 rfl ?_
      refine tr_getR dX8_reads_81 fg_RX8_29 (by first | assumption | decide) (by first | assumption | rfl) rfl (by omega) ?_
      refine tr_bipush (v := nI 18) dX8_reads_84 (by decide) ?_
      refine tr_iald dX8_reads_86 (by first | assumption | decide) (by first | assumption | rfl) rfl (by omega) (by omega) (by first | assumption | rfl) ?_
      -- at 87: .istore_n 3
      refine tr_istore_n_3 dX8_reads_87 (by decide) rfl ?_
      refine tr_aload_n dX8_reads_88 rfl ?_
      refine tr_iload_n dX8_reads_89 rfl ?_
      refine tr_iload_n dX8_reads_90 rfl ?_
      -- at 91: .invokevirtual 98
      refine tr_Vi (As := [_, _]) dX8_reads_91 fm_RX8_98 rfl rfl (by first | assumption | decide) (by first | assumption | rfl) (Nat.le_of_ble_eq_true rfl) (r_byteAt hj (by omega) hx) (fun v μ1 ⟨e1, e2⟩ => ?_)
      subst μ1; subst v
      rw [btM, if_pos h1]
      refine tr_Si (As := [_]) dX8_reads_94 fm_RX8_105 rfl rfl (Nat.le_of_ble_eq_true rfl) (r_kindBy) (fun v μ1 ⟨e1, e2⟩ => ?_)
      subst μ1; subst v
      refine tr_istore_4 dX8_reads_97 (by decide) rfl ?_
      refine tr_iload dX8_reads_99 rfl ?_
      refine tr_bipush (v := -9) dX8_reads_101 (by decide) ?_
      -- at 103: .if_icmp .eq 9
      refine tr_icmp_eq (tgt := 112) dX8_reads_103 (by decide) (fun h2 => ?_) (fun h2 => ?_)
      · have e : rdL n f (m' + 1) p c = (some p, c) := by rw [rdL, if_pos h1, kdR_none h2]
        refine tr_iload_n dX8_reads_112 rfl ?_
        -- at 113: .ireturn
        refine tr_iret dX8_reads_113 (by first | exact trivial | rfl) ⟨sP.rf _ μ, by rw [e]; rfl, fun q => by rw [e] at q; cases q⟩
      · obtain ⟨kd, hkd⟩ : ∃ kd, kdV (f p) = some kd := by
          cases e : kdV (f p) with
          | none => rw [e] at h2; exact absurd rfl h2
          | some k => exact ⟨k, rfl⟩
        rw [hkd, show kdR (some kd) = nI kd from rfl]
        refine tr_iload_n dX8_reads_106 rfl ?_
        refine tr_bipush (v := nI 7) dX8_reads_107 (by decide) ?_
        -- at 109: .if_icmp .ne 5
        refine tr_neN (tgt := 114) dX8_reads_109 (by decide) (by omega) (by omega) (fun h3 => ?_) (fun h3 => ?_)
        · refine tr_iconst (v := nI 1) dX8_reads_114 (by decide) ?_
          refine tr_istore_5 dX8_reads_115 (by decide) rfl ?_
          refine tr_iload dX8_reads_117 rfl ?_
          refine tr_iconst (v := nI 3) dX8_reads_119 (by decide) ?_
          -- at 120: .if_icmp .ge 33
          refine tr_geN (tgt := 153) dX8_reads_120 (by decide) (by omega) (by omega) (fun h4 => ?_) (fun h4 => ?_)
          · omega
          · refine tr_aload_n dX8_reads_123 rfl ?_
            refine tr_iload_n dX8_reads_124 rfl ?_
            refine tr_iload_n dX8_reads_125 rfl ?_
            refine tr_iload dX8_reads_126 rfl ?_
            first | with_reducible refine tr_iaddN dX8_reads_128 ?_ | refine tr_iadd dX8_reads_128 ?_
            -- at 129: .invokevirtual 98
            refine tr_Vi (As := [_, _]) dX8_reads_129 fm_RX8_98 rfl rfl (by first | assumption | decide) (by first | assumption | rfl) (Nat.le_of_ble_eq_true rfl) (r_byteAt hj (by omega) hx) (fun v μ1 ⟨e1, e2⟩ => ?_)
            subst μ1; subst v
            refine tr_bipush (v := nI 48) dX8_reads_132 (by decide) ?_
            refine tr_bipush (v := nI 57) dX8_reads_134 (by decide) ?_
            -- at 136: .invokestatic 73
            refine tr_Si (As := [_, _, _]) dX8_reads_136 fm_RX8_73 rfl rfl (Nat.le_of_ble_eq_true rfl) (r_in) (fun v μ1 ⟨e1, e2⟩ => ?_)
            subst μ1; subst v
            have g1 := fig_in (lo := 0) (by omega) n f (p + 1)
            rw [show 48 + 0 = 48 from rfl] at g1
            rw [g1]
            refine tr_ifb1 (tgt := 147) dX8_reads_139 (by decide) (fun h5 => ?_) (fun h5 => ?_)
            · have h5' := of_decide_eq_true h5
              first | with_reducible refine tr_iincN_5 dX8_reads_147 (by decide) rfl ?_ | refine tr_iinc_5 dX8_reads_147 (by decide) rfl ?_
              refine tr_goto (tgt := 117) dX8_reads_150 (by decide) ?_
              refine tr_iload dX8_reads_117 rfl ?_
              refine tr_iconst (v := nI 3) dX8_reads_119 (by decide) ?_
              -- at 120: .if_icmp .ge 33
              refine tr_geN (tgt := 153) dX8_reads_120 (by decide) (by omega) (by omega) (fun h6 => ?_) (fun h6 => ?_)
              · omega
              · refine tr_aload_n dX8_reads_123 rfl ?_
                refine tr_iload_n dX8_reads_124 rfl ?_
                refine tr_iload_n dX8_reads_125 rfl ?_
                refine tr_iload dX8_reads_126 rfl ?_
                first | with_reducible refine tr_iaddN dX8_reads_128 ?_ | refine tr_iadd dX8_reads_128 ?_
                -- at 129: .invokevirtual 98
                refine tr_Vi (As := [_, _]) dX8_reads_129 fm_RX8_98 rfl rfl (by first | assumption | decide) (by first | assumption | rfl) (Nat.le_of_ble_eq_true rfl) (r_byteAt hj (by omega) hx) (fun v μ1 ⟨e1, e2⟩ => ?_)
                subst μ1; subst v
                refine tr_bipush (v := nI 48) dX8_reads_132 (by decide) ?_
                refine tr_bipush (v := nI 57) dX8_reads_134 (by decide) ?_
                -- at 136: .invokestatic 73
                refine tr_Si (As := [_, _, _]) dX8_reads_136 fm_RX8_73 rfl rfl (Nat.le_of_ble_eq_true rfl) (r_in) (fun v μ1 ⟨e1, e2⟩ => ?_)
                subst μ1; subst v
                have g2 := fig_in (lo := 0) (by omega) n f (p + 2)
                rw [show 48 + 0 = 48 from rfl] at g2
                rw [g2]
                refine tr_ifb1 (tgt := 147) dX8_reads_139 (by decide) (fun h7 => ?_) (fun h7 => ?_)
                · have h7' := of_decide_eq_true h7
                  obtain ⟨v1, v2, v3⟩ := isFig_v (by omega) h5'.2
                  obtain ⟨u1, u2, u3⟩ := isFig_v (by omega) h7'.2
                  have e : rdL n f (m' + 1) p c = rdL n f m' (skS n f (p + 3)) (addC c kd (figV (f (p + 1))) (figV (f (p + 2)))) := by
                    rw [rdL, if_pos h1, hkd]
                    dsimp only
                    rw [if_neg h3, if_neg (by simpa using h5'), if_neg (by simpa using h7')]
                  rw [e]
                  have hw2 : wfc (addC c kd (figV (f (p + 1))) (figV (f (p + 2)))) := addC_wf hw (by omega) (kdV_lt hkd) v2 u2
                  generalize figV (f (p + 1)) = s1 at *
                  generalize figV (f (p + 2)) = s2 at *
                  first | with_reducible refine tr_iincN_5 dX8_reads_147 (by decide) rfl ?_ | refine tr_iinc_5 dX8_reads_147 (by decide) rfl ?_
                  refine tr_goto (tgt := 117) dX8_reads_150 (by decide) ?_
                  refine tr_iload dX8_reads_117 rfl ?_
                  refine tr_iconst (v := nI 3) dX8_reads_119 (by decide) ?_
                  -- at 120: .if_icmp .ge 33
                  refine tr_geN (tgt := 153) dX8_reads_120 (by decide) (by omega) (by omega) (fun h8 => ?_) (fun h8 => ?_)
                  · refine tr_aload_n dX8_reads_153 rfl ?_
                    refine tr_getR dX8_reads_154 fg_RX8_29 (by first | assumption | decide) (by first | assumption | rfl) rfl (by omega) ?_
                    refine tr_bipush (v := nI 19) dX8_reads_157 (by decide) ?_
                    refine tr_iload_n dX8_reads_159 rfl ?_
                    first | with_reducible refine tr_iaddN dX8_reads_160 ?_ | refine tr_iadd dX8_reads_160 ?_
                    refine tr_iload dX8_reads_161 rfl ?_
                    refine tr_iast dX8_reads_163 (by first | assumption | decide) (by first | assumption | rfl) rfl (by omega) (by omega) ?_
                    -- at 164: .aload_n 0
                    have hr1 := hr.set (19 + c 18) kd
                    have hx1 := RX.put106 hx (by omega) (by omega) (upd (μ.1 106) (19 + c 18) (nI kd))
                    have hs1 := (sP.rf (fun b => b = 106) μ).put (a := 106) (upd (μ.1 106) (19 + c 18) (nI kd)) rfl
                    generalize sI μ 106 (upd (μ.1 106) (19 + c 18) (nI kd)) = μ1 at hr1 hx1 hs1 ⊢
                    refine tr_aload_n dX8_reads_164 rfl ?_
                    refine tr_getR dX8_reads_165 fg_RX8_29 (by first | assumption | decide) (by first | assumption | rfl) rfl (by omega) ?_
                    refine tr_iconst (v := nI 4) dX8_reads_168 (by decide) ?_
                    refine tr_iload_n dX8_reads_169 rfl ?_
                    first | with_reducible refine tr_iaddN dX8_reads_170 ?_ | refine tr_iadd dX8_reads_170 ?_
                    refine tr_aload_n dX8_reads_171 rfl ?_
                    refine tr_iload_n dX8_reads_172 rfl ?_
                    refine tr_iload_n dX8_reads_173 rfl ?_
                    refine tr_iconst (v := nI 1) dX8_reads_174 (by decide) ?_
                    first | with_reducible refine tr_iaddN dX8_reads_175 ?_ | refine tr_iadd dX8_reads_175 ?_
                    -- at 176: .invokevirtual 98
                    refine tr_Vi (As := [_, _]) dX8_reads_176 fm_RX8_98 rfl rfl (by first | assumption | decide) (by first | assumption | rfl) (Nat.le_of_ble_eq_true rfl) (r_byteAt hj (by omega) hx1) (fun v μ2 ⟨e1, e2⟩ => ?_)
                    subst μ2; subst v
                    rw [btM, if_pos h5'.1, v1]
                    refine tr_bipush (v := nI 48) dX8_reads_179 (by decide) ?_
                    first | with_reducible refine tr_isubN dX8_reads_181 (by omega) ?_ | refine tr_isub dX8_reads_181 ?_
                    -- at 182: .iastore
                    rw [Nat.add_sub_cancel_left]
                    refine tr_iast dX8_reads_182 (by first | assumption | decide) (by first | assumption | rfl) rfl (by omega) (by omega) ?_
                    -- at 183: .aload_n 0
                    have hr2 := hr1.set (4 + c 18) s1
                    have hx2 := RX.put106 hx1 (by omega) (by omega) (upd (μ1.1 106) (4 + c 18) (nI s1))
                    have hs2 := hs1.put (a := 106) (upd (μ1.1 106) (4 + c 18) (nI s1)) rfl
                    generalize sI μ1 106 (upd (μ1.1 106) (4 + c 18) (nI s1)) = μ2 at hr2 hx2 hs2 ⊢
                    have q4 := hr2 (4 + c 18) (by omega)
                    rw [nu_s] at q4
                    refine tr_aload_n dX8_reads_183 rfl ?_
                    refine tr_getR dX8_reads_184 fg_RX8_29 (by first | assumption | decide) (by first | assumption | rfl) rfl (by omega) ?_
                    refine tr_bipush (v := nI 11) dX8_reads_187 (by decide) ?_
                    refine tr_iload_n dX8_reads_189 rfl ?_
                    first | with_reducible refine tr_iaddN dX8_reads_190 ?_ | refine tr_iadd dX8_reads_190 ?_
                    refine tr_aload_n dX8_reads_191 rfl ?_
                    refine tr_getR dX8_reads_192 fg_RX8_29 (by first | assumption | decide) (by first | assumption | rfl) rfl (by omega) ?_
                    refine tr_iconst (v := nI 4) dX8_reads_195 (by decide) ?_
                    refine tr_iload_n dX8_reads_196 rfl ?_
                    first | with_reducible refine tr_iaddN dX8_reads_197 ?_ | refine tr_iadd dX8_reads_197 ?_
                    refine tr_iald dX8_reads_198 (by first | assumption | decide) (by first | assumption | rfl) rfl (by omega) (by omega) (by first | assumption | rfl) ?_
                    refine tr_iast dX8_reads_199 (by first | assumption | decide) (by first | assumption | rfl) rfl (by omega) (by omega) ?_
                    -- at 200: .aload_n 0
                    have hr3 := hr2.set (11 + c 18) s1
                    have hx3 := RX.put106 hx2 (by omega) (by omega) (upd (μ2.1 106) (11 + c 18) (nI s1))
                    have hs3 := hs2.put (a := 106) (upd (μ2.1 106) (11 + c 18) (nI s1)) rfl
                    generalize sI μ2 106 (upd (μ2.1 106) (11 + c 18) (nI s1)) = μ3 at hr3 hx3 hs3 ⊢
                    refine tr_aload_n dX8_reads_200 rfl ?_
                    refine tr_getR dX8_reads_201 fg_RX8_29 (by first | assumption | decide) (by first | assumption | rfl) rfl (by omega) ?_
                    refine tr_bipush (v := nI 26) dX8_reads_204 (by decide) ?_
                    refine tr_iload_n dX8_reads_206 rfl ?_
                    first | with_reducible refine tr_iaddN dX8_reads_207 ?_ | refine tr_iadd dX8_reads_207 ?_
                    refine tr_aload_n dX8_reads_208 rfl ?_
                    refine tr_iload_n dX8_reads_209 rfl ?_
                    refine tr_iload_n dX8_reads_210 rfl ?_
                    refine tr_iconst (v := nI 2) dX8_reads_211 (by decide) ?_
                    first | with_reducible refine tr_iaddN dX8_reads_212 ?_ | refine tr_iadd dX8_reads_212 ?_
                    -- at 213: .invokevirtual 98
                    refine tr_Vi (As := [_, _]) dX8_reads_213 fm_RX8_98 rfl rfl (by first | assumption | decide) (by first | assumption | rfl) (Nat.le_of_ble_eq_true rfl) (r_byteAt hj (by omega) hx3) (fun v μ4 ⟨e1, e2⟩ => ?_)
                    subst μ4; subst v
                    rw [btM, if_pos h7'.1, u1]
                    refine tr_bipush (v := nI 48) dX8_reads_216 (by decide) ?_
                    first | with_reducible refine tr_isubN dX8_reads_218 (by omega) ?_ | refine tr_isub dX8_reads_218 ?_
                    -- at 219: .iastore
                    rw [Nat.add_sub_cancel_left]
                    refine tr_iast dX8_reads_219 (by first | assumption | decide) (by first | assumption | rfl) rfl (by omega) (by omega) ?_
                    -- at 220: .aload_n 0
                    have hr4 := hr3.set (26 + c 18) s2
                    have hx4 := RX.put106 hx3 (by omega) (by omega) (upd (μ3.1 106) (26 + c 18) (nI s2))
                    have hs4 := hs3.put (a := 106) (upd (μ3.1 106) (26 + c 18) (nI s2)) rfl
                    generalize sI μ3 106 (upd (μ3.1 106) (26 + c 18) (nI s2)) = μ4 at hr4 hx4 hs4 ⊢
                    have q18 := hr4 18 (by omega)
                    rw [nu_n _ _ (by omega), nu_n _ _ (by omega), nu_n _ _ (by omega), nu_n _ _ (by omega)] at q18
                    refine tr_aload_n dX8_reads_220 rfl ?_
                    refine tr_getR dX8_reads_221 fg_RX8_29 (by first | assumption | decide) (by first | assumption | rfl) rfl (by omega) ?_
                    refine tr_bipush (v := nI 18) dX8_reads_224 (by decide) ?_
                    refine tr_dup2 dX8_reads_226 rfl rfl ?_
                    refine tr_iald dX8_reads_227 (by first | assumption | decide) (by first | assumption | rfl) rfl (by omega) (by omega) (by first | assumption | rfl) ?_
                    refine tr_iconst (v := nI 1) dX8_reads_228 (by decide) ?_
                    first | with_reducible refine tr_iaddN dX8_reads_229 ?_ | refine tr_iadd dX8_reads_229 ?_
                    refine tr_iast dX8_reads_230 (by first | assumption | decide) (by first | assumption | rfl) rfl (by omega) (by omega) ?_
                    -- at 231: .aload_n 0
                    have hr5 := hr4.set 18 (c 18 + 1)
                    have hx5 := RX.put106 hx4 (by omega) (by omega) (upd (μ4.1 106) 18 (nI (c 18 + 1)))
                    have hs5 := hs4.put (a := 106) (upd (μ4.1 106) 18 (nI (c 18 + 1))) rfl
                    generalize sI μ4 106 (upd (μ4.1 106) 18 (nI (c 18 + 1))) = μ5 at hr5 hx5 hs5 ⊢
                    refine tr_aload_n dX8_reads_231 rfl ?_
                    refine tr_iload_n dX8_reads_232 rfl ?_
                    refine tr_iload_n dX8_reads_233 rfl ?_
                    refine tr_iconst (v := nI 3) dX8_reads_234 (by decide) ?_
                    first | with_reducible refine tr_iaddN dX8_reads_235 ?_ | refine tr_iadd dX8_reads_235 ?_
                    -- at 236: .invokevirtual 102
                    refine tr_Vi (As := [_, _]) dX8_reads_236 fm_RX8_102 rfl rfl (by first | assumption | decide) (by first | assumption | rfl) (Nat.le_of_ble_eq_true rfl) (r_skips hj (by omega) hx5) (fun v μ6 ⟨e1, e2⟩ => ?_)
                    subst μ6; subst v
                    refine tr_istore_n_2 dX8_reads_239 (by decide) rfl ?_
                    refine tr_goto (tgt := 70) dX8_reads_240 (by decide) ?_
                    -- at 70: .iload_n 2
                    have key := l_reads hj hn m' (skS n f (p + 3)) (addC c kd s1 s2) (.int (nI (c 18))) (.int (nI kd)) (.int (nI 3)) μ5 rfl rfl (by rw [addC_18]; omega) (by omega) (skS_le (by omega)) hw2 hr5 hx5
                    exact tw_mono key (fun r μ' ⟨v, q1, q2, q3⟩ => ⟨v, q1, hs5.trans q2, q3⟩)
                  · omega
                · have h7' := of_decide_eq_false h7
                  have e : rdL n f (m' + 1) p c = (some (p + 2), c) := by
                    rw [rdL, if_pos h1, hkd]
                    dsimp only
                    rw [if_neg h3, if_neg (by simpa using h5'), if_pos h7']
                  refine tr_iload_n dX8_reads_142 rfl ?_
                  refine tr_iload dX8_reads_143 rfl ?_
                  first | with_reducible refine tr_iaddN dX8_reads_145 ?_ | refine tr_iadd dX8_reads_145 ?_
                  -- at 146: .ireturn
                  refine tr_iret dX8_reads_146 (by first | exact trivial | rfl) ⟨sP.rf _ μ, by rw [e]; rfl, fun q => by rw [e] at q; cases q⟩
            · have h5' := of_decide_eq_false h5
              have e : rdL n f (m' + 1) p c = (some (p + 1), c) := by
                rw [rdL, if_pos h1, hkd]
                dsimp only
                rw [if_neg h3, if_pos h5']
              refine tr_iload_n dX8_reads_142 rfl ?_
              refine tr_iload dX8_reads_143 rfl ?_
              first | with_reducible refine tr_iaddN dX8_reads_145 ?_ | refine tr_iadd dX8_reads_145 ?_
              -- at 146: .ireturn
              refine tr_iret dX8_reads_146 (by first | exact trivial | rfl) ⟨sP.rf _ μ, by rw [e]; rfl, fun q => by rw [e] at q; cases q⟩
        · have e : rdL n f (m' + 1) p c = (some p, c) := by
            rw [rdL, if_pos h1, hkd]
            dsimp only
            rw [if_pos h3]
          refine tr_iload_n dX8_reads_112 rfl ?_
          -- at 113: .ireturn
          refine tr_iret dX8_reads_113 (by first | exact trivial | rfl) ⟨sP.rf _ μ, by rw [e]; rfl, fun q => by rw [e] at q; cases q⟩
  termination_by m => m
theorem r_reads (hj : j < 4) (hx : RX 60 μ 103 104 j (some (n, f))) : cp X (d + 3) kX8_reads [.ref 99, .int (nI j)] μ (qi (fun v μ' => sP (fun b => b = 106) μ μ' ∧ v = kdR (rdT n f).1 ∧ ((rdT n f).1 = none → MR μ' 106 (rdT n f).2))) := by
  have r1 := hx.1
  have r2 := hx.2.1
  have hsk : skS n f 0 ≤ n := skS_le (by omega)
  refine cp_of ok_X8_reads (L := [.ref 99, .int (nI j), .float 0, .float 0, .float 0, .float 0]) rfl ?_
  refine tr_iconst (v := nI 0) dX8_reads_0 (by decide) ?_
  refine tr_istore_n_2 dX8_reads_1 (by decide) rfl ?_
  -- at 2: .iload_n 2
  refine tw_for (n := 33) (Lf := fun k => [.ref 99, .int (nI j), .int (nI k), .float 0, .float 0, .float 0]) (P := fun k μ1 => sP (fun b => b = 106) μ μ1 ∧ ∀ i, i < k → μ1.1 106 i = nI 0) (fun k μ1 hk hP ih => ?_) (fun μ1 hP => ?_) 0 _ (by omega) ⟨sP.rf _ μ, fun i hi => by omega⟩
  · obtain ⟨p1, p2⟩ := hP
    refine tr_iload_n dX8_reads_2 rfl ?_
    refine tr_bipush (v := nI 33) dX8_reads_3 (by decide) ?_
    -- at 5: .if_icmp .ge 16
    refine tr_geN (tgt := 21) dX8_reads_5 (by decide) (by omega) (by omega) (fun h1 => ?_) (fun h1 => ?_)
    · omega
    · refine tr_aload_n dX8_reads_8 rfl ?_
      refine tr_getR dX8_reads_9 fg_RX8_29 (by first | assumption | decide) (by first | assumption | rfl) rfl (by omega) ?_
      refine tr_iload_n dX8_reads_12 rfl ?_
      refine tr_iconst (v := nI 0) dX8_reads_13 (by decide) ?_
      refine tr_iast dX8_reads_14 (by first | assumption | decide) (by first | assumption | rfl) rfl (by omega) (by omega) ?_
      first | with_reducible refine tr_iincN_2 dX8_reads_15 (by decide) rfl ?_ | refine tr_iinc_2 dX8_reads_15 (by decide) rfl ?_
      refine tr_goto (tgt := 2) dX8_reads_18 (by decide) ?_
      -- at 2: .iload_n 2
      refine ih _ ⟨p1.put _ rfl, fun i hi => ?_⟩
      rw [sI_same]
      by_cases e : i = k
      · subst e; rw [pk_us]
      · rw [pk_un e]; exact p2 i (by omega)
  · obtain ⟨p1, p2⟩ := hP
    have hr : MR μ1 106 (fun _ => 0) := p2
    have hx1 : RX 60 μ1 103 104 j (some (n, f)) := hx.kept (p1 103 (by omega)).1 (p1 104 (by omega)).1
    refine tr_iload_n dX8_reads_2 rfl ?_
    refine tr_bipush (v := nI 33) dX8_reads_3 (by decide) ?_
    -- at 5: .if_icmp .ge 16
    refine tr_geN (tgt := 21) dX8_reads_5 (by decide) (by omega) (by omega) (fun h1 => ?_) (fun h1 => ?_)
    · refine tr_aload_n dX8_reads_21 rfl ?_
      refine tr_iload_n dX8_reads_22 rfl ?_
      refine tr_iconst (v := nI 0) dX8_reads_23 (by decide) ?_
      -- at 24: .invokevirtual 102
      refine tr_Vi (As := [_, _]) dX8_reads_24 fm_RX8_102 rfl rfl (by first | assumption | decide) (by first | assumption | rfl) (Nat.le_of_ble_eq_true rfl) (r_skips hj (by omega) hx1) (fun v μ2 ⟨e1, e2⟩ => ?_)
      subst μ2; subst v
      refine tr_istore_n_2 dX8_reads_27 (by decide) rfl ?_
      refine tr_aload_n dX8_reads_28 rfl ?_
      refine tr_iload_n dX8_reads_29 rfl ?_
      refine tr_iload_n dX8_reads_30 rfl ?_
      -- at 31: .invokevirtual 98
      refine tr_Vi (As := [_, _]) dX8_reads_31 fm_RX8_98 rfl rfl (by first | assumption | decide) (by first | assumption | rfl) (Nat.le_of_ble_eq_true rfl) (r_byteAt hj (by omega) hx1) (fun v μ2 ⟨e1, e2⟩ => ?_)
      subst μ2; subst v
      refine tr_bipush (v := nI 49) dX8_reads_34 (by decide) ?_
      refine tr_bipush (v := nI 57) dX8_reads_36 (by decide) ?_
      -- at 38: .invokestatic 73
      refine tr_Si (As := [_, _, _]) dX8_reads_38 fm_RX8_73 rfl rfl (Nat.le_of_ble_eq_true rfl) (r_in) (fun v μ2 ⟨e1, e2⟩ => ?_)
      subst μ2; subst v
      have g1 := fig_in (lo := 1) (by omega) n f (skS n f 0)
      rw [show 48 + 1 = 49 from rfl] at g1
      rw [g1]
      refine tr_ifb1 (tgt := 46) dX8_reads_41 (by decide) (fun h2 => ?_) (fun h2 => ?_)
      · have h2' := of_decide_eq_true h2
        obtain ⟨v1, v2, v3⟩ := isFig_v (by omega) h2'.2
        have e : rdT n f = rdL n f 8 (skS n f (skS n f 0 + 1)) (nu (fun _ => 0) 0 (figV (f (skS n f 0)))) := by rw [rdT, if_pos h2']
        rw [e]
        generalize figV (f (skS n f 0)) = s1 at *
        refine tr_aload_n dX8_reads_46 rfl ?_
        refine tr_getR dX8_reads_47 fg_RX8_29 (by first | assumption | decide) (by first | assumption | rfl) rfl (by omega) ?_
        refine tr_iconst (v := nI 0) dX8_reads_50 (by decide) ?_
        refine tr_aload_n dX8_reads_51 rfl ?_
        refine tr_iload_n dX8_reads_52 rfl ?_
        refine tr_iload_n dX8_reads_53 rfl ?_
        -- at 54: .invokevirtual 98
        refine tr_Vi (As := [_, _]) dX8_reads_54 fm_RX8_98 rfl rfl (by first | assumption | decide) (by first | assumption | rfl) (Nat.le_of_ble_eq_true rfl) (r_byteAt hj (by omega) hx1) (fun v μ2 ⟨e1, e2⟩ => ?_)
        subst μ2; subst v
        rw [btM, if_pos h2'.1, v1]
        refine tr_bipush (v := nI 48) dX8_reads_57 (by decide) ?_
        first | with_reducible refine tr_isubN dX8_reads_59 (by omega) ?_ | refine tr_isub dX8_reads_59 ?_
        -- at 60: .iastore
        rw [Nat.add_sub_cancel_left]
        refine tr_iast dX8_reads_60 (by first | assumption | decide) (by first | assumption | rfl) rfl (by omega) (by omega) ?_
        -- at 61: .aload_n 0
        have hr1 := hr.set 0 s1
        have hx2 := RX.put106 hx1 (by omega) (by omega) (upd (μ1.1 106) 0 (nI s1))
        have hs1 := p1.put (a := 106) (upd (μ1.1 106) 0 (nI s1)) rfl
        generalize sI μ1 106 (upd (μ1.1 106) 0 (nI s1)) = μ2 at hr1 hx2 hs1 ⊢
        refine tr_aload_n dX8_reads_61 rfl ?_
        refine tr_iload_n dX8_reads_62 rfl ?_
        refine tr_iload_n dX8_reads_63 rfl ?_
        refine tr_iconst (v := nI 1) dX8_reads_64 (by decide) ?_
        first | with_reducible refine tr_iaddN dX8_reads_65 ?_ | refine tr_iadd dX8_reads_65 ?_
        -- at 66: .invokevirtual 102
        refine tr_Vi (As := [_, _]) dX8_reads_66 fm_RX8_102 rfl rfl (by first | assumption | decide) (by first | assumption | rfl) (Nat.le_of_ble_eq_true rfl) (r_skips hj (by omega) hx2) (fun v μ3 ⟨e1, e2⟩ => ?_)
        subst μ3; subst v
        refine tr_istore_n_2 dX8_reads_69 (by decide) rfl ?_
        -- at 70: .iload_n 2
        have key := l_reads (X := X) (d := d) hj r2 8 (skS n f (skS n f 0 + 1)) (nu (fun _ => 0) 0 s1) (.float 0) (.float 0) (.float 0) μ2 rfl rfl (by rw [nu_n _ _ (by omega)]) (by omega) (skS_le (by omega)) (wfc_0 (by omega)) hr1 hx2
        exact tw_mono key (fun r μ' ⟨v, q1, q2, q3⟩ => ⟨v, q1, hs1.trans q2, q3⟩)
      · have h2' := of_decide_eq_false h2
        have e : rdT n f = (some (skS n f 0), fun _ => 0) := by rw [rdT, if_neg h2']
        refine tr_iload_n dX8_reads_44 rfl ?_
        -- at 45: .ireturn
        refine tr_iret dX8_reads_45 (by first | exact trivial | rfl) ⟨p1, by rw [e]; rfl, fun q => by rw [e] at q; cases q⟩
    · omega
theorem r_fault (h : MI μ σ) : cp X (d + 4) kX8_fault [.ref 99, .int r] μ (PM μ (S_fault σ r)) := by
  refine cp_of ok_X8_fault (L := [.ref 99, .int r]) rfl ?_
  refine tr_iload_n dX8_fault_0 rfl ?_
  -- at 1: .invokestatic 95
  refine tr_Si (As := [_]) dX8_fault_1 fm_RX8_95 rfl rfl (Nat.le_of_ble_eq_true rfl) (r_isText) (fun v μ1 ⟨e1, e2⟩ => ?_)
  subst μ1; subst v
  cases hr : ixV r 4 with
  | none =>
    refine tr_ifb1 (tgt := 9) dX8_fault_4 (by decide) (fun h1 => ?_) (fun h1 => ?_)
    · cases h1
    · refine tr_iconst (v := -1) dX8_fault_7 (by decide) ?_
      exact tr_iret dX8_fault_8 (by first | exact trivial | rfl) (pm_same h (by rw [S_fault, hr]))
  | some j =>
    obtain ⟨rfl, hj⟩ := ixV_some (by omega) hr
    have hX := h.2.1 j hj
    have r0 := hX.sz
    refine tr_ifb1 (tgt := 9) dX8_fault_4 (by decide) (fun h1 => ?_) (fun h1 => ?_)
    · refine tr_aload_n dX8_fault_9 rfl ?_
      refine tr_getR dX8_fault_10 fg_RX8_19 (by first | assumption | decide) (by first | assumption | rfl) rfl (by omega) ?_
      refine tr_iload_n dX8_fault_13 rfl ?_
      refine tr_iald dX8_fault_14 (by first | assumption | decide) (by first | assumption | rfl) rfl (by omega) (by omega) (by first | assumption | rfl) ?_
      -- at 15: .ifCond .ge 11
      cases ho : sT σ j with
      | none =>
        refine tr_if_ge (tgt := 26) dX8_fault_15 (by decide) (fun h2 => ?_) (fun h2 => ?_)
        · exact absurd h2 (by decide)
        · refine tr_aload_n dX8_fault_18 rfl ?_
          refine tr_iconst (v := nI 1) dX8_fault_19 (by decide) ?_
          refine tr_Vi (As := [_]) dX8_fault_20 fm_RX8_81 rfl rfl (by first | assumption | decide) (by first | assumption | rfl) (Nat.le_of_ble_eq_true rfl) (r_finds (k := 1) (by omega) h) (fun v μ1 ⟨e1, e2, e3⟩ => ?_)
          refine tr_goto (tgt := 31) dX8_fault_23 (by decide) ?_
          exact tr_iret dX8_fault_31 (by first | exact trivial | rfl) (pm_e (by simp only [S_fault, hr, ho]) e1 e2 e3)
      | some w =>
        obtain ⟨n, f⟩ := w
        rw [ho] at hX
        have r2 := hX.2.1
        refine tr_if_ge (tgt := 26) dX8_fault_15 (by decide) (fun h2 => ?_) (fun h2 => ?_)
        · refine tr_aload_n dX8_fault_26 rfl ?_
          refine tr_iload_n dX8_fault_27 rfl ?_
          -- at 28: .invokevirtual 108
          refine tr_Vi (As := [_]) dX8_fault_28 fm_RX8_108 rfl rfl (by first | assumption | decide) (by first | assumption | rfl) (Nat.le_of_ble_eq_true rfl) (r_reads hj hX) (fun v μ1 ⟨e1, e2, e3⟩ => ?_)
          refine tr_iret dX8_fault_31 (by first | exact trivial | rfl) (pm_e (q := (kdR (rdT n f).1, σ)) (by simp only [S_fault, hr, ho]) e2 (h.scr (e1.wide (fun b hb => Or.inr (Or.inl hb)))) (e1.fq (fun b hb => by omega)))
        · exact absurd (nI_pos' (show n < 2 ^ 31 by omega)) h2
    · cases h1
theorem r_board (h : MI μ σ) : cp X (d + 4) kX8_board [.ref 99, .int r] μ (PM μ (S_board σ r)) := by
  refine cp_of ok_X8_board (L := [.ref 99, .int r, .float 0]) rfl ?_
  refine tr_iload_n dX8_board_0 rfl ?_
  -- at 1: .invokestatic 95
  refine tr_Si (As := [_]) dX8_board_1 fm_RX8_95 rfl rfl (Nat.le_of_ble_eq_true rfl) (r_isText) (fun v μ1 ⟨e1, e2⟩ => ?_)
  subst μ1; subst v
  cases hr : ixV r 4 with
  | none =>
    refine tr_ifb1 (tgt := 9) dX8_board_4 (by decide) (fun h1 => ?_) (fun h1 => ?_)
    · cases h1
    · refine tr_iconst (v := -1) dX8_board_7 (by decide) ?_
      exact tr_iret dX8_board_8 (by first | exact trivial | rfl) (pm_same h (by rw [S_board, hr]))
  | some j =>
    obtain ⟨rfl, hj⟩ := ixV_some (by omega) hr
    have hX := h.2.1 j hj
    have r0 := hX.sz
    refine tr_ifb1 (tgt := 9) dX8_board_4 (by decide) (fun h1 => ?_) (fun h1 => ?_)
    · refine tr_aload_n dX8_board_9 rfl ?_
      refine tr_getR dX8_board_10 fg_RX8_19 (by first | assumption | decide) (by first | assumption | rfl) rfl (by omega) ?_
      refine tr_iload_n dX8_board_13 rfl ?_
      refine tr_iald dX8_board_14 (by first | assumption | decide) (by first | assumption | rfl) rfl (by omega) (by omega) (by first | assumption | rfl) ?_
      -- at 15: .ifCond .ge 9
      cases ho : sT σ j with
      | none =>
        refine tr_if_ge (tgt := 24) dX8_board_15 (by decide) (fun h2 => ?_) (fun h2 => ?_)
        · exact absurd h2 (by decide)
        · refine tr_aload_n dX8_board_18 rfl ?_
          refine tr_iconst (v := nI 1) dX8_board_19 (by decide) ?_
          refine tr_Vi (As := [_]) dX8_board_20 fm_RX8_81 rfl rfl (by first | assumption | decide) (by first | assumption | rfl) (Nat.le_of_ble_eq_true rfl) (r_finds (k := 1) (by omega) h) (fun v μ1 ⟨e1, e2, e3⟩ => ?_)
          exact tr_iret dX8_board_23 (by first | exact trivial | rfl) (pm_e (by simp only [S_board, hr, ho]) e1 e2 e3)
      | some w =>
        obtain ⟨n, f⟩ := w
        rw [ho] at hX
        have r2 := hX.2.1
        refine tr_if_ge (tgt := 24) dX8_board_15 (by decide) (fun h2 => ?_) (fun h2 => ?_)
        · refine tr_aload_n dX8_board_24 rfl ?_
          refine tr_iload_n dX8_board_25 rfl ?_
          -- at 26: .invokevirtual 108
          refine tr_Vi (As := [_]) dX8_board_26 fm_RX8_108 rfl rfl (by first | assumption | decide) (by first | assumption | rfl) (Nat.le_of_ble_eq_true rfl) (r_reads hj hX) (fun v μ1 ⟨e1, e2, e3⟩ => ?_)
          subst v
          refine tr_bipush (v := -9) dX8_board_29 (by decide) ?_
          -- at 31: .if_icmp .eq 6
          cases hd : (rdT n f).1 with
          | some p =>
            have hp := rdT_lt r2 hd
            refine tr_icmp_eq (tgt := 37) dX8_board_31 (by decide) (fun h3 => ?_) (fun h3 => ?_)
            · exact absurd h3 (nI_m9 hp)
            · refine tr_bipush (v := -4) dX8_board_34 (by decide) ?_
              -- at 36: .ireturn
              refine tr_iret dX8_board_36 (by first | exact trivial | rfl) (pm_e (q := (-4, σ)) (by simp only [S_board, hr, ho, hd]) rfl (h.scr (e1.wide (fun b hb => Or.inr (Or.inl hb)))) (e1.fq (fun b hb => by omega)))
          | none =>
            have hm := e3 hd
            have eS : S_board σ (nI j) = (nI ((rdT n f).2 18), gS σ (rdT n f).2) := by simp only [S_board, hr, ho, hd]
            rw [eS]
            generalize (rdT n f).2 = c at hm ⊢
            refine tr_icmp_eq (tgt := 37) dX8_board_31 (by decide) (fun h3 => ?_) (fun h3 => ?_)
            · refine tr_iconst (v := nI 0) dX8_board_37 (by decide) ?_
              refine tr_istore_n_2 dX8_board_38 (by decide) rfl ?_
              -- at 39: .iload_n 2
              refine tw_for (n := 33) (Lf := fun k => [.ref 99, .int (nI j), .int (nI k)]) (P := fun k μ2 => sP (fun b => b = 105) μ1 μ2 ∧ ∀ i, i < k → μ2.1 105 i = nI (c i)) (fun k μ2 hk hP ih => ?_) (fun μ2 hP => ?_) 0 _ (by omega) ⟨sP.rf _ μ1, fun i hi => by omega⟩
              · obtain ⟨p1, p2⟩ := hP
                have g : μ2.1 106 k = nI (c k) := by rw [(p1 106 (by omega)).1]; exact hm k hk
                refine tr_iload_n dX8_board_39 rfl ?_
                refine tr_bipush (v := nI 33) dX8_board_40 (by decide) ?_
                -- at 42: .if_icmp .ge 21
                refine tr_geN (tgt := 63) dX8_board_42 (by decide) (by omega) (by omega) (fun h4 => ?_) (fun h4 => ?_)
                · omega
                · refine tr_aload_n dX8_board_45 rfl ?_
                  refine tr_getR dX8_board_46 fg_RX8_26 (by first | assumption | decide) (by first | assumption | rfl) rfl (by omega) ?_
                  refine tr_iload_n dX8_board_49 rfl ?_
                  refine tr_aload_n dX8_board_50 rfl ?_
                  refine tr_getR dX8_board_51 fg_RX8_29 (by first | assumption | decide) (by first | assumption | rfl) rfl (by omega) ?_
                  refine tr_iload_n dX8_board_54 rfl ?_
                  refine tr_iald dX8_board_55 (by first | assumption | decide) (by first | assumption | rfl) rfl (by omega) (by omega) (by first | assumption | rfl) ?_
                  refine tr_iast dX8_board_56 (by first | assumption | decide) (by first | assumption | rfl) rfl (by omega) (by omega) ?_
                  first | with_reducible refine tr_iincN_2 dX8_board_57 (by decide) rfl ?_ | refine tr_iinc_2 dX8_board_57 (by decide) rfl ?_
                  refine tr_goto (tgt := 39) dX8_board_60 (by decide) ?_
                  -- at 39: .iload_n 2
                  refine ih _ ⟨p1.put _ rfl, fun i hi => ?_⟩
                  rw [sI_same]
                  by_cases e : i = k
                  · subst e; rw [pk_us]
                  · rw [pk_un e]; exact p2 i (by omega)
              · obtain ⟨p1, p2⟩ := hP
                have hc2 : MR μ2 105 c := p2
                have e99 : μ2.1 99 = μ.1 99 := (p1 99 (by omega)).1.trans (e1 99 (by omega)).1
                have f99 : μ2.2 99 = μ.2 99 := (p1 99 (by omega)).2.trans (e1 99 (by omega)).2
                have hs2 := ((e1.wide (P' := fun b => b = 99 ∨ b = 105 ∨ b = 106 ∨ b = 112) (fun b hb => Or.inr (Or.inr (Or.inl hb)))).trans (p1.wide (fun b hb => Or.inr (Or.inl hb)))).put (a := 99) (upd (μ2.1 99) 10 (nI 0)) (Or.inl rfl)
                refine tr_iload_n dX8_board_39 rfl ?_
                refine tr_bipush (v := nI 33) dX8_board_40 (by decide) ?_
                -- at 42: .if_icmp .ge 21
                refine tr_geN (tgt := 63) dX8_board_42 (by decide) (by omega) (by omega) (fun h4 => ?_) (fun h4 => ?_)
                · refine tr_aload_n dX8_board_63 rfl ?_
                  refine tr_iconst (v := nI 0) dX8_board_64 (by decide) ?_
                  refine tr_putI dX8_board_65 fp_RX8_111 (by first | assumption | decide) (by first | assumption | rfl) rfl ?_
                  refine tr_iconst (v := nI 0) dX8_board_68 (by decide) ?_
                  refine tr_istore_n_2 dX8_board_69 (by decide) rfl ?_
                  -- at 70: .iload_n 2
                  have hc3 : MR (sI μ2 99 (upd (μ2.1 99) 10 (nI 0))) 105 c := hc2.kept (by rw [sI_ne _ _ (by omega)])
                  have e993 : (sI μ2 99 (upd (μ2.1 99) 10 (nI 0))).1 99 = upd (μ.1 99) 10 (nI 0) := by rw [sI_same, e99]
                  have f993 : (sI μ2 99 (upd (μ2.1 99) 10 (nI 0))).2 99 = μ.2 99 := f99
                  generalize sI μ2 99 (upd (μ2.1 99) 10 (nI 0)) = μ3 at hs2 hc3 e993 f993 ⊢
                  refine tw_for (n := 3) (Lf := fun k => [.ref 99, .int (nI j), .int (nI k)]) (P := fun k μ4 => sP (fun b => b = 112) μ3 μ4 ∧ ∀ i, i < k → μ4.1 112 i = -1) (fun k μ4 hk hP ih => ?_) (fun μ4 hP => ?_) 0 _ (by omega) ⟨sP.rf _ μ3, fun i hi => by omega⟩
                  · obtain ⟨u1, u2⟩ := hP
                    refine tr_iload_n dX8_board_70 rfl ?_
                    refine tr_aload_n dX8_board_71 rfl ?_
                    refine tr_getR dX8_board_72 fg_RX8_47 (by first | assumption | decide) (by first | assumption | rfl) rfl (by omega) ?_
                    refine tr_alen dX8_board_75 (by first | assumption | decide) (by first | assumption | rfl) (by decide) ?_
                    -- at 76: .if_icmp .ge 16
                    refine tr_geN (tgt := 92) dX8_board_76 (by decide) (by omega) (by omega) (fun h5 => ?_) (fun h5 => ?_)
                    · omega
                    · refine tr_aload_n dX8_board_79 rfl ?_
                      refine tr_getR dX8_board_80 fg_RX8_47 (by first | assumption | decide) (by first | assumption | rfl) rfl (by omega) ?_
                      refine tr_iload_n dX8_board_83 rfl ?_
                      refine tr_iconst (v := -1) dX8_board_84 (by decide) ?_
                      refine tr_iast dX8_board_85 (by first | assumption | decide) (by first | assumption | rfl) rfl (by omega) (by omega) ?_
                      first | with_reducible refine tr_iincN_2 dX8_board_86 (by decide) rfl ?_ | refine tr_iinc_2 dX8_board_86 (by decide) rfl ?_
                      refine tr_goto (tgt := 70) dX8_board_89 (by decide) ?_
                      -- at 70: .iload_n 2
                      refine ih _ ⟨u1.put _ rfl, fun i hi => ?_⟩
                      rw [sI_same]
                      by_cases e : i = k
                      · subst e; rw [pk_us]
                      · rw [pk_un e]; exact u2 i (by omega)
                  · obtain ⟨u1, u2⟩ := hP
                    have hc4 : MR μ4 105 c := hc3.kept (u1 105 (by omega)).1
                    have k18 := hc4 18 (by omega)
                    have hs4 := hs2.trans (u1.wide (P' := fun b => b = 99 ∨ b = 105 ∨ b = 106 ∨ b = 112) (fun b hb => Or.inr (Or.inr (Or.inr hb))))
                    refine tr_iload_n dX8_board_70 rfl ?_
                    refine tr_aload_n dX8_board_71 rfl ?_
                    refine tr_getR dX8_board_72 fg_RX8_47 (by first | assumption | decide) (by first | assumption | rfl) rfl (by omega) ?_
                    refine tr_alen dX8_board_75 (by first | assumption | decide) (by first | assumption | rfl) (by decide) ?_
                    -- at 76: .if_icmp .ge 16
                    refine tr_geN (tgt := 92) dX8_board_76 (by decide) (by omega) (by omega) (fun h5 => ?_) (fun h5 => ?_)
                    · refine tr_aload_n dX8_board_92 rfl ?_
                      refine tr_getR dX8_board_93 fg_RX8_26 (by first | assumption | decide) (by first | assumption | rfl) rfl (by omega) ?_
                      refine tr_bipush (v := nI 18) dX8_board_96 (by decide) ?_
                      refine tr_iald dX8_board_98 (by first | assumption | decide) (by first | assumption | rfl) rfl (by omega) (by omega) (by first | assumption | rfl) ?_
                      -- at 99: .ireturn
                      refine tr_iret dX8_board_99 (by first | exact trivial | rfl) ⟨rfl, h.board hs4 hc4 (by rw [(u1 99 (by omega)).1, e993]) (by rw [(u1 99 (by omega)).2, f993]) u2, hs4.fq (fun b hb => by omega)⟩
                    · omega
                · omega
            · exact absurd rfl h3
        · exact absurd (nI_pos' (show n < 2 ^ 31 by omega)) h2
    · cases h1
end M7
