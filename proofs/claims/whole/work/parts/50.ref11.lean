-- ===== the reference: test =====
def grk (b : Nat) (g : Nat → Nat) (k : Nat) : Nat → Nat
  | 0 => 0
  | q + 1 => max (grk b g k q) (cnM b g q k)
theorem grk_6 (b : Nat) (g : Nat → Nat) : ∀ q, grk b g 6 q = grM b g q
  | 0 => rfl
  | q + 1 => by rw [grk, grM, grk_6 b g q]
theorem cnM_ne (b : Nat) (g : Nat → Nat) {q k : Nat} (h : g k ≠ q) : cnM b g q (k + 1) = cnM b g q k := by
  rw [cnM, decide_eq_false h, Bool.and_false]; rfl
theorem cnM_mono (b : Nat) (g : Nat → Nat) (q k : Nat) : cnM b g q k ≤ cnM b g q (k + 1) := by rw [cnM]; omega
theorem grk_s (b : Nat) (g : Nat → Nat) (k : Nat) : ∀ Q, grk b g (k + 1) Q = if g k < Q then max (grk b g k Q) (cnM b g (g k) (k + 1)) else grk b g k Q
  | 0 => rfl
  | Q + 1 => by
    rw [grk, grk_s b g k Q, grk]
    by_cases h1 : g k < Q
    · rw [if_pos h1, if_pos (by omega), cnM_ne b g (q := Q) (by omega)]
      omega
    · rw [if_neg h1]
      by_cases h2 : g k = Q
      · rw [if_pos (by omega), h2]
        have := cnM_mono b g Q k
        omega
      · rw [if_neg (by omega), cnM_ne b g h2]
theorem grk_0 (b : Nat) (g : Nat → Nat) : ∀ Q, grk b g 0 Q = 0
  | 0 => rfl
  | Q + 1 => by rw [grk, grk_0 b g Q]; rfl
def tsR (b : Nat) (c : NF) (i : Nat) : Nat → Option Nat × Nat
  | 0 => (none, 99)
  | t + 1 => if grM b (filM c i (t + 1)) 10 < (tsR b c i t).2 then (some (t + 1), grM b (filM c i (t + 1)) 10) else tsR b c i t
theorem tsR_eq (b : Nat) (c : NF) (i : Nat) : ∀ t, tsR b c i (t + 1) = tsM b c i (t + 1)
  | 0 => by
    have := grM_le b (filM c i (0 + 1)) 10
    rw [tsR, tsM, if_pos (by show _ < 99; omega), if_pos (by show _ < 7; omega)]
  | t + 1 => by rw [tsR, tsM, tsR_eq b c i t]
theorem tsR_le (b : Nat) (c : NF) (i : Nat) : ∀ t, (tsR b c i t).2 ≤ 99 ∧ ∀ k, (tsR b c i t).1 = some k → k ≤ t
  | 0 => ⟨Nat.le_refl 99, fun k hk => by cases hk⟩
  | t + 1 => by
    obtain ⟨h1, h2⟩ := tsR_le b c i t
    have := grM_le b (filM c i (t + 1)) 10
    rw [tsR]
    split
    · exact ⟨by show _ ≤ 99; omega, fun k hk => by cases hk; omega⟩
    · exact ⟨h1, fun k hk => by have := h2 k hk; omega⟩
theorem tsR_some (b : Nat) (c : NF) (i t : Nat) : (tsR b c i (t + 1)).1 ≠ none := by
  induction t with
  | zero =>
    have := grM_le b (filM c i (0 + 1)) 10
    rw [tsR, if_pos (by show _ < 99; omega)]
    intro h; cases h
  | succ t ih =>
    rw [tsR]
    split
    · intro h; cases h
    · exact ih
def FM (μ : am_M) (c : NF) (i K : Nat) : Prop := ∀ k, k < K → ∀ t, 1 ≤ t → t ≤ 20 → μ.1 116 (21 * k + t) = nI (filM c i t k)
section M11
variable {X : Nat × (Nat → Int32)} {d : Nat} {μ : am_M} {σ : SG} {a b i j n p : Nat} {c : NF} {r x y z w : Int32} {f : Nat → Int32}
theorem l_test1 {Q : Option Value → am_M → Prop} {am : Int32} {b : Nat} (h : MI μ σ) (hW : WI σ) (hi : i < 7) (hQ : ∀ (w5 w6 : Value) (μ' : am_M), w5.category = 1 → w6.category = 1 → sP scrM μ μ' → FM μ' (nowM σ) i 6 → tw X (d + 5) kX8_test Q 126 [.ref 99, .int (nI i), .int (nI j), .int am, .int (nI b), w5, w6, .float 0, .float 0, .float 0, .float 0] [] μ') (μ0 : am_M) (h0 : sP scrM μ μ0) : tw X (d + 5) kX8_test Q 47 [.ref 99, .int (nI i), .int (nI j), .int am, .int (nI b), .int (nI 0), .float 0, .float 0, .float 0, .float 0, .float 0] [] μ0 := by
  have hw := hW.now
  refine tw_for3 (n := 6) (Lf := fun k w1 _ _ => [.ref 99, .int (nI i), .int (nI j), .int am, .int (nI b), .int (nI k), w1, .float 0, .float 0, .float 0, .float 0]) (P := fun k μ1 => sP scrM μ μ1 ∧ FM μ1 (nowM σ) i k) (fun k w1 w2 w3 μ1 c1 c2 c3 hk hP ih => ?_) (fun w1 w2 w3 μ1 c1 c2 c3 hP => ?_) 0 (.float 0) (.float 0) (.float 0) _ (by omega) rfl rfl rfl ⟨h0, fun k hk => absurd hk (Nat.not_lt_zero k)⟩
  · obtain ⟨p1, p2⟩ := hP
    have hm1 := (h.scr p1).2.2.1
    refine tr_iload dX8_test_47 rfl ?_
    refine tr_iconst (v := nI 5) dX8_test_49 (by decide) ?_
    -- at 50: .if_icmp .gt 76
    refine tr_gtN (tgt := 126) dX8_test_50 (by decide) (by omega) (by omega) (fun h1 => ?_) (fun h1 => ?_)
    · omega
    · refine tr_aload_n dX8_test_53 rfl ?_
      refine tr_getR dX8_test_54 fg_RX8_26 (by first | assumption | decide) (by first | assumption | rfl) rfl (by omega) ?_
      refine tr_aload_n dX8_test_57 rfl ?_
      refine tr_getR dX8_test_58 fg_RX8_32 (by first | assumption | decide) (by first | assumption | rfl) rfl (by omega) ?_
      -- at 61: .invokestatic 163
      refine tr_Sv (As := [_, _]) dX8_test_61 fm_RX8_163 rfl rfl (Nat.le_of_ble_eq_true rfl) (r_copies isA_105 isA_107 (by omega) hm1) (fun μ2 ⟨e1, e2⟩ => ?_)
      refine tr_aload_n dX8_test_64 rfl ?_
      refine tr_getR dX8_test_65 fg_RX8_32 (by first | assumption | decide) (by first | assumption | rfl) rfl (by omega) ?_
      refine tr_bipush (v := nI 19) dX8_test_68 (by decide) ?_
      refine tr_iload_n dX8_test_70 rfl ?_
      first | with_reducible refine tr_iaddN dX8_test_71 ?_ | refine tr_iadd dX8_test_71 ?_
      refine tr_iload dX8_test_72 rfl ?_
      refine tr_iast dX8_test_74 (by first | assumption | decide) (by first | assumption | rfl) rfl (by omega) (by omega) ?_
      -- at 75: .iconst 1
      have hr2 := e2.set (19 + i) k
      have hs2 := e1.put (a := 107) (upd (μ2.1 107) (19 + i) (nI k)) (by simp)
      generalize sI μ2 107 (upd (μ2.1 107) (19 + i) (nI k)) = μ3 at hr2 hs2 ⊢
      have hw0 : wfc (nu (nowM σ) (19 + i) k) := hw.kind hi hk
      refine tr_iconst (v := nI 1) dX8_test_75 (by decide) ?_
      refine tr_istore_6 dX8_test_76 (by decide) (by first | rfl | assumption) ?_
      -- at 78: .iload 6
      refine tw_for (n := 20) (Lf := fun t => [.ref 99, .int (nI i), .int (nI j), .int am, .int (nI b), .int (nI k), .int (nI (t + 1)), .float 0, .float 0, .float 0, .float 0]) (P := fun t μ4 => sP (fun b => b = 107 ∨ b = 116) μ1 μ4 ∧ MR μ4 107 (goI t (nu (nowM σ) (19 + i) k)) ∧ FM μ4 (nowM σ) i k ∧ ∀ s, 1 ≤ s → s ≤ t → μ4.1 116 (21 * k + s) = nI (filM (nowM σ) i s k)) (fun t μ4 ht hP2 ih2 => ?_) (fun μ4 hP2 => ?_) 0 _ (by omega) ⟨sP.of hs2 (fun b hb => Or.inl (by simpa using hb)), hr2, fun q hq t t1 t2 => by rw [hs2.1 116 (by decide)]; exact p2 q hq t t1 t2, fun s s1 s2 => by omega⟩
      · obtain ⟨u1, u2, u3, u4⟩ := hP2
        refine tr_iload dX8_test_78 rfl ?_
        refine tr_bipush (v := nI 21) dX8_test_80 (by decide) ?_
        -- at 82: .if_icmp .ge 38
        refine tr_geN (tgt := 120) dX8_test_82 (by decide) (by omega) (by omega) (fun h2 => ?_) (fun h2 => ?_)
        · omega
        · refine tr_aload_n dX8_test_85 rfl ?_
          refine tr_getR dX8_test_86 fg_RX8_32 (by first | assumption | decide) (by first | assumption | rfl) rfl (by omega) ?_
          -- at 89: .invokestatic 153
          refine tr_Si (As := [_]) dX8_test_89 fm_RX8_153 rfl rfl (Nat.le_of_ble_eq_true rfl) (r_goes isA_107 u2 (goI_wf _ _ hw0)) (fun v μ5 ⟨g1, g2, g3⟩ => ?_)
          rw [goI_s] at g2
          have k4 := g2 (4 + i) (by omega)
          refine tr_pop dX8_test_92 rfl ?_
          refine tr_aload_n dX8_test_93 rfl ?_
          refine tr_getR dX8_test_94 fg_RX8_63 (by first | assumption | decide) (by first | assumption | rfl) rfl (by omega) ?_
          refine tr_bipush (v := nI 21) dX8_test_97 (by decide) ?_
          refine tr_iload dX8_test_99 rfl ?_
          first | with_reducible refine tr_imulN dX8_test_101 ?_ | refine tr_imul dX8_test_101 ?_
          refine tr_iload dX8_test_102 rfl ?_
          first | with_reducible refine tr_iaddN dX8_test_104 ?_ | refine tr_iadd dX8_test_104 ?_
          refine tr_aload_n dX8_test_105 rfl ?_
          refine tr_getR dX8_test_106 fg_RX8_32 (by first | assumption | decide) (by first | assumption | rfl) rfl (by omega) ?_
          refine tr_iconst (v := nI 4) dX8_test_109 (by decide) ?_
          refine tr_iload_n dX8_test_110 rfl ?_
          first | with_reducible refine tr_iaddN dX8_test_111 ?_ | refine tr_iadd dX8_test_111 ?_
          refine tr_iald dX8_test_112 (by first | assumption | decide) (by first | assumption | rfl) rfl (by omega) (by omega) (by first | assumption | rfl) ?_
          refine tr_iast dX8_test_113 (by first | assumption | decide) (by first | assumption | rfl) rfl (by omega) (by omega) ?_
          -- at 114: .iinc 6 1
          refine (fun t => ?_ : (∀ μ6, μ6 = sI μ5 116 (upd (μ5.1 116) (21 * k + (t + 1)) (nI (goI (t + 1) (nu (nowM σ) (19 + i) k) (4 + i)))) → tw X (d + 5) kX8_test Q 114 [.ref 99, .int (nI i), .int (nI j), .int am, .int (nI b), .int (nI k), .int (nI (t + 1)), .float 0, .float 0, .float 0, .float 0] [] μ6) → tw X (d + 5) kX8_test Q 114 [.ref 99, .int (nI i), .int (nI j), .int am, .int (nI b), .int (nI k), .int (nI (t + 1)), .float 0, .float 0, .float 0, .float 0] [] (sI μ5 116 (upd (μ5.1 116) (21 * k + (t + 1)) (nI (goI (t + 1) (nu (nowM σ) (19 + i) k) (4 + i)))))) ?_
          · exact t _ rfl
          · intro μ6 hμ6
            have e116 : μ5.1 116 = μ4.1 116 := g1.1 116 (by decide)
            first | with_reducible refine tr_iincN_6 dX8_test_114 (by decide) rfl ?_ | with_reducible refine tr_iincN_6 dX8_test_114 (by decide) (by assumption) ?_ | refine tr_iinc_6 dX8_test_114 (by decide) (by first | rfl | assumption) ?_
            refine tr_goto (tgt := 78) dX8_test_117 (by decide) ?_
            -- at 78: .iload 6
            refine ih2 _ ⟨?_, ?_, ?_, ?_⟩
            · rw [hμ6]
              exact (u1.trans (sP.of g1 (fun b hb => Or.inl (by simpa using hb)))).put _ (Or.inr rfl)
            · rw [hμ6]; exact g2.kept (by rw [sI_ne _ _ (by omega)])
            · intro q hq s s1 s2
              rw [hμ6, sI_same, pk_un (by omega), e116]
              exact u3 q hq s s1 s2
            · intro s s1 s2
              rw [hμ6, sI_same]
              by_cases e : s = t + 1
              · subst e; rw [pk_us]; rfl
              · rw [pk_un (by omega), e116]; exact u4 s s1 (by omega)
      · obtain ⟨u1, u2, u3, u4⟩ := hP2
        refine tr_iload dX8_test_78 rfl ?_
        refine tr_bipush (v := nI 21) dX8_test_80 (by decide) ?_
        -- at 82: .if_icmp .ge 38
        refine tr_geN (tgt := 120) dX8_test_82 (by decide) (by omega) (by omega) (fun h2 => ?_) (fun h2 => ?_)
        · first | with_reducible refine tr_iincN_5 dX8_test_120 (by decide) rfl ?_ | with_reducible refine tr_iincN_5 dX8_test_120 (by decide) (by assumption) ?_ | refine tr_iinc_5 dX8_test_120 (by decide) (by first | rfl | assumption) ?_
          refine tr_goto (tgt := 47) dX8_test_123 (by decide) ?_
          -- at 47: .iload 5
          refine ih (.int (nI (20 + 1))) w2 w3 μ4 rfl c2 c3 ⟨p1.trans (u1.wide (fun b hb => by unfold scrM; omega)), fun q hq t t1 t2 => ?_⟩
          by_cases e : q = k
          · subst e; exact u4 t t1 t2
          · exact u3 q (by omega) t t1 t2
        · omega
  · obtain ⟨p1, p2⟩ := hP
    refine tr_iload dX8_test_47 rfl ?_
    refine tr_iconst (v := nI 5) dX8_test_49 (by decide) ?_
    -- at 50: .if_icmp .gt 76
    refine tr_gtN (tgt := 126) dX8_test_50 (by decide) (by omega) (by omega) (fun h1 => ?_) (fun h1 => ?_)
    · exact hQ _ _ μ1 rfl c1 p1 p2
    · omega
theorem l_test3 {Q : Option Value → am_M → Prop} {am bst lst : Int32} {b t : Nat} {g G : Nat → Nat} (hb : b < 64) (hgl : ∀ k, k < 6 → g k < 10) (hG0 : ∀ k, k < 6 → G k ≤ 1000) (hG : ∀ k, k < 6 → G (k + 1) = max (G k) (cnM b g (g k) (k + 1))) (ht : t < 20) (hfl : ∀ k, k < 6 → μ.1 116 (21 * k + (t + 1)) = nI (g k)) (hz : ∀ s, s < 10 → μ.1 115 s = nI 0) {w3 : Value} (c3 : w3.category = 1) (hQ : ∀ (w : Value) (μ' : am_M), w.category = 1 → sP (fun b => b = 115) μ μ' → tw X (d + 5) kX8_test Q 257 [.ref 99, .int (nI i), .int (nI j), .int am, .int (nI b), .int bst, .int lst, .int (nI (t + 1)), .int (nI (G 6)), .int (nI 6), w] [] μ') : tw X (d + 5) kX8_test Q 179 [.ref 99, .int (nI i), .int (nI j), .int am, .int (nI b), .int bst, .int lst, .int (nI (t + 1)), .int (nI (G 0)), .int (nI 0), w3] [] μ := by
  refine tw_for3 (n := 6) (Lf := fun k w1 _ _ => [.ref 99, .int (nI i), .int (nI j), .int am, .int (nI b), .int bst, .int lst, .int (nI (t + 1)), .int (nI (G k)), .int (nI k), w1]) (P := fun k μ3 => sP (fun b => b = 115) μ μ3 ∧ ∀ s, s < 10 → μ3.1 115 s = nI (cnM b g s k)) (fun k v1 v2 v3 μ3 d1 d2 d3 hk hP3 ih3 => ?_) (fun v1 v2 v3 μ3 d1 d2 d3 hP3 => ?_) 0 w3 (.float 0) (.float 0) _ (by omega) c3 rfl rfl ⟨sP.rf _ μ, hz⟩
  · obtain ⟨u1, u2⟩ := hP3
    have hgk := hgl k hk
    have g116 : μ3.1 116 (21 * k + (t + 1)) = nI (g k) := by rw [(u1 116 (by omega)).1]; exact hfl k hk
    have hs := hG k hk
    have hcl := cnM_le b g (g k) (k + 1)
    have hgk6 := hG0 k hk
    have ecn : cnM b g (g k) (k + 1) = cnM b g (g k) k + bN (b.testBit k) := by rw [cnM, decide_eq_true rfl, Bool.and_true]
    have u2k := u2 (g k) hgk
    have enx : ∀ s, s < 10 → (sI μ3 115 (upd (μ3.1 115) (g k) (nI (cnM b g (g k) (k + 1))))).1 115 s = nI (cnM b g s (k + 1)) := by
      intro s hs10
      rw [sI_same]
      by_cases e : s = g k
      · subst e; rw [pk_us]
      · rw [pk_un e, cnM_ne b g (fun q => e q.symm)]; exact u2 s hs10
    have hP4 := u1.put (a := 115) (upd (μ3.1 115) (g k) (nI (cnM b g (g k) (k + 1)))) rfl
    have ih4 := ih3 (.int (nI (g k))) v2 v3 _ rfl d2 d3 ⟨hP4, enx⟩
    rw [hs] at ih4
    have enk := enx (g k) hgk
    have hrest : tw X (d + 5) kX8_test Q 225 [.ref 99, .int (nI i), .int (nI j), .int am, .int (nI b), .int bst, .int lst, .int (nI (t + 1)), .int (nI (G k)), .int (nI k), .int (nI (g k))] [] (sI μ3 115 (upd (μ3.1 115) (g k) (nI (cnM b g (g k) (k + 1))))) := by
      clear hP4 enx ih3 hG hs hQ hfl hz u1 u2 u2k g116
      generalize sI μ3 115 (upd (μ3.1 115) (g k) (nI (cnM b g (g k) (k + 1)))) = μ4 at ih4 enk ⊢
      generalize cnM b g (g k) (k + 1) = cn at *
      generalize G k = gr at *
      generalize g k = q at *
      refine tr_aload_n dX8_test_225 rfl ?_
      refine tr_getR dX8_test_226 fg_RX8_60 (by first | assumption | decide) (by first | assumption | rfl) rfl (by omega) ?_
      refine tr_iload dX8_test_229 rfl ?_
      refine tr_iald dX8_test_231 (by first | assumption | decide) (by first | assumption | rfl) rfl (by omega) (by omega) (by first | assumption | rfl) ?_
      refine tr_iload dX8_test_232 rfl ?_
      -- at 234: .if_icmp .le 13
      refine tr_leN (tgt := 247) dX8_test_234 (by decide) (by omega) (by omega) (fun h5 => ?_) (fun h5 => ?_)
      · rw [Nat.max_eq_left h5] at ih4
        refine tr_iload dX8_test_247 rfl ?_
        refine tr_istore_8 dX8_test_249 (by decide) (by first | rfl | assumption) ?_
        first | with_reducible refine tr_iincN_9 dX8_test_251 (by decide) rfl ?_ | with_reducible refine tr_iincN_9 dX8_test_251 (by decide) (by assumption) ?_ | refine tr_iinc_9 dX8_test_251 (by decide) (by first | rfl | assumption) ?_
        refine tr_goto (tgt := 179) dX8_test_254 (by decide) ?_
        -- at 179: .iload 9
        exact ih4
      · rw [Nat.max_eq_right (by omega)] at ih4
        refine tr_aload_n dX8_test_237 rfl ?_
        refine tr_getR dX8_test_238 fg_RX8_60 (by first | assumption | decide) (by first | assumption | rfl) rfl (by omega) ?_
        refine tr_iload dX8_test_241 rfl ?_
        refine tr_iald dX8_test_243 (by first | assumption | decide) (by first | assumption | rfl) rfl (by omega) (by omega) (by first | assumption | rfl) ?_
        refine tr_goto (tgt := 249) dX8_test_244 (by decide) ?_
        refine tr_istore_8 dX8_test_249 (by decide) (by first | rfl | assumption) ?_
        first | with_reducible refine tr_iincN_9 dX8_test_251 (by decide) rfl ?_ | with_reducible refine tr_iincN_9 dX8_test_251 (by decide) (by assumption) ?_ | refine tr_iinc_9 dX8_test_251 (by decide) (by first | rfl | assumption) ?_
        refine tr_goto (tgt := 179) dX8_test_254 (by decide) ?_
        -- at 179: .iload 9
        exact ih4
    rw [ecn] at hrest
    clear hP4 enx ih3 ih4 hG hs hQ hfl hz u1 u2 enk ecn hcl
    generalize cnM b g (g k) k = cn0 at *
    generalize g k = q at *
    refine tr_iload dX8_test_179 rfl ?_
    refine tr_iconst (v := nI 5) dX8_test_181 (by decide) ?_
    -- at 182: .if_icmp .gt 75
    refine tr_gtN (tgt := 257) dX8_test_182 (by decide) (by omega) (by omega) (fun h4 => ?_) (fun h4 => ?_)
    · omega
    · refine tr_aload_n dX8_test_185 rfl ?_
      refine tr_getR dX8_test_186 fg_RX8_63 (by first | assumption | decide) (by first | assumption | rfl) rfl (by omega) ?_
      refine tr_bipush (v := nI 21) dX8_test_189 (by decide) ?_
      refine tr_iload dX8_test_191 rfl ?_
      first | with_reducible refine tr_imulN dX8_test_193 ?_ | refine tr_imul dX8_test_193 ?_
      refine tr_iload dX8_test_194 rfl ?_
      first | with_reducible refine tr_iaddN dX8_test_196 ?_ | refine tr_iadd dX8_test_196 ?_
      refine tr_iald dX8_test_197 (by first | assumption | decide) (by first | assumption | rfl) rfl (by omega) (by omega) (by first | assumption | rfl) ?_
      refine tr_istore_10 dX8_test_198 (by decide) (by first | rfl | assumption) ?_
      refine tr_aload_n dX8_test_200 rfl ?_
      refine tr_getR dX8_test_201 fg_RX8_60 (by first | assumption | decide) (by first | assumption | rfl) rfl (by omega) ?_
      refine tr_iload dX8_test_204 rfl ?_
      refine tr_dup2 dX8_test_206 rfl rfl ?_
      refine tr_iald dX8_test_207 (by first | assumption | decide) (by first | assumption | rfl) rfl (by omega) (by omega) (by first | assumption | rfl) ?_
      refine tr_iload dX8_test_208 rfl ?_
      refine tr_iload dX8_test_210 rfl ?_
      -- at 212: .invokestatic 137
      refine tr_Si (As := [_, _]) dX8_test_212 fm_RX8_137 rfl rfl (Nat.le_of_ble_eq_true rfl) (r_has (d := d + 4) (s := b) (by omega) (by omega)) (fun v μ5 ⟨e1, e2⟩ => ?_)
      subst μ5; subst v
      refine tr_ifb0 (tgt := 222) dX8_test_215 (by decide) (fun h6 => ?_) (fun h6 => ?_)
      · rw [h6] at hrest
        refine tr_iconst (v := nI 0) dX8_test_222 (by decide) ?_
        first | with_reducible refine tr_iaddN dX8_test_223 ?_ | refine tr_iadd dX8_test_223 ?_
        refine tr_iast dX8_test_224 (by first | assumption | decide) (by first | assumption | rfl) rfl (by omega) (by omega) ?_
        -- at 225: .aload_n 0
        exact hrest
      · rw [h6] at hrest
        refine tr_iconst (v := nI 1) dX8_test_218 (by decide) ?_
        refine tr_goto (tgt := 223) dX8_test_219 (by decide) ?_
        first | with_reducible refine tr_iaddN dX8_test_223 ?_ | refine tr_iadd dX8_test_223 ?_
        refine tr_iast dX8_test_224 (by first | assumption | decide) (by first | assumption | rfl) rfl (by omega) (by omega) ?_
        -- at 225: .aload_n 0
        exact hrest
  · obtain ⟨u1, u2⟩ := hP3
    refine tr_iload dX8_test_179 rfl ?_
    refine tr_iconst (v := nI 5) dX8_test_181 (by decide) ?_
    -- at 182: .if_icmp .gt 75
    refine tr_gtN (tgt := 257) dX8_test_182 (by decide) (by omega) (by omega) (fun h4 => ?_) (fun h4 => ?_)
    · exact hQ _ _ d1 u1
    · omega
theorem grk_le (b : Nat) (g : Nat → Nat) (k : Nat) : ∀ Q, grk b g k Q ≤ k
  | 0 => Nat.zero_le _
  | Q + 1 => by
    have := grk_le b g k Q
    have := cnM_le b g Q k
    rw [grk]
    omega
theorem l_test2 {μ0 : am_M} {P : Int32 × SG} {am : Int32} {b N : Nat} {T : Option Nat × Nat} (hN : N = 20) (eT : tsM b (nowM σ) i N = T) (h : MI μ σ) (hW : WI σ) (hi : i < 7) (hb : b < 64) (hb0 : b ≠ 0) (hF : FM μ (nowM σ) i 6) (hf : fq μ0 μ) (eP : P = (kdR T.1, gA σ (nI T.2))) : tw X (d + 5) kX8_test (PM μ0 P) 137 [.ref 99, .int (nI i), .int (nI j), .int am, .int (nI b), .int (-9), .int (nI 99), .int (nI 1), .float 0, .float 0, .float 0] [] μ := by
  have hw := hW.now
  refine tw_for3 (n := N) (Lf := fun t w1 w2 w3 => [.ref 99, .int (nI i), .int (nI j), .int am, .int (nI b), .int (kdR (tsR b (nowM σ) i t).1), .int (nI (tsR b (nowM σ) i t).2), .int (nI (t + 1)), w1, w2, w3]) (P := fun k μ1 => sP (fun b => b = 115) μ μ1) (fun t w1 w2 w3 μ1 c1 c2 c3 hk hP ih => ?_) (fun w1 w2 w3 μ1 c1 c2 c3 hP => ?_) 0 (.float 0) (.float 0) (.float 0) _ (by omega) rfl rfl rfl (sP.rf _ μ)
  · have hle := (tsR_le b (nowM σ) i t).1
    have hgl : ∀ k, k < 6 → filM (nowM σ) i (t + 1) k < 10 := fun k hk => filM_lt hw hi hk
    have hg6 := grM_le b (filM (nowM σ) i (t + 1)) 10
    have hfl : ∀ k, k < 6 → μ1.1 116 (21 * k + (t + 1)) = nI (filM (nowM σ) i (t + 1) k) := fun k hk => by rw [(hP 116 (by omega)).1]; exact hF k hk (t + 1) (by omega) (by omega)
    have ets : tsR b (nowM σ) i (t + 1) = if grM b (filM (nowM σ) i (t + 1)) 10 < (tsR b (nowM σ) i t).2 then (some (t + 1), grM b (filM (nowM σ) i (t + 1)) 10) else tsR b (nowM σ) i t := by rw [tsR]
    rw [ets] at ih
    generalize filM (nowM σ) i (t + 1) = g at hgl hfl hg6 ih
    refine tr_iload dX8_test_137 rfl ?_
    refine tr_bipush (v := nI 21) dX8_test_139 (by decide) ?_
    -- at 141: .if_icmp .ge 154
    refine tr_geN (tgt := 295) dX8_test_141 (by decide) (by omega) (by omega) (fun h1 => ?_) (fun h1 => ?_)
    · omega
    · refine tr_iload dX8_test_144 rfl ?_
      -- at 146: .ifCond .eq 149
      refine tr_if0N (tgt := 295) dX8_test_146 (by decide) (by omega) (fun h2 => ?_) (fun h2 => ?_)
      · exact absurd h2 hb0
      · refine tr_iconst (v := nI 0) dX8_test_149 (by decide) ?_
        refine tr_istore_8 dX8_test_150 (by decide) (by first | rfl | assumption) ?_
        -- at 152: .iload 8
        refine tw_for (n := 10) (Lf := fun q => [.ref 99, .int (nI i), .int (nI j), .int am, .int (nI b), .int (kdR (tsR b (nowM σ) i t).1), .int (nI (tsR b (nowM σ) i t).2), .int (nI (t + 1)), .int (nI q), w2, w3]) (P := fun q μ2 => sP (fun b => b = 115) μ1 μ2 ∧ ∀ s, s < q → μ2.1 115 s = nI 0) (fun q μ2 hq hP2 ih2 => ?_) (fun μ2 hP2 => ?_) 0 _ (by omega) ⟨sP.rf _ μ1, fun s hs => by omega⟩
        · obtain ⟨p1, p2⟩ := hP2
          refine tr_iload dX8_test_152 rfl ?_
          refine tr_bipush (v := nI 10) dX8_test_154 (by decide) ?_
          -- at 156: .if_icmp .ge 17
          refine tr_geN (tgt := 173) dX8_test_156 (by decide) (by omega) (by omega) (fun h3 => ?_) (fun h3 => ?_)
          · omega
          · refine tr_aload_n dX8_test_159 rfl ?_
            refine tr_getR dX8_test_160 fg_RX8_60 (by first | assumption | decide) (by first | assumption | rfl) rfl (by omega) ?_
            refine tr_iload dX8_test_163 rfl ?_
            refine tr_iconst (v := nI 0) dX8_test_165 (by decide) ?_
            refine tr_iast dX8_test_166 (by first | assumption | decide) (by first | assumption | rfl) rfl (by omega) (by omega) ?_
            first | with_reducible refine tr_iincN_8 dX8_test_167 (by decide) rfl ?_ | with_reducible refine tr_iincN_8 dX8_test_167 (by decide) (by assumption) ?_ | refine tr_iinc_8 dX8_test_167 (by decide) (by first | rfl | assumption) ?_
            refine tr_goto (tgt := 152) dX8_test_170 (by decide) ?_
            -- at 152: .iload 8
            refine ih2 _ ⟨p1.put _ rfl, fun s hs => ?_⟩
            rw [sI_same]
            by_cases e : s = q
            · subst e; rw [pk_us]
            · rw [pk_un e]; exact p2 s (by omega)
        · obtain ⟨p1, p2⟩ := hP2
          refine tr_iload dX8_test_152 rfl ?_
          refine tr_bipush (v := nI 10) dX8_test_154 (by decide) ?_
          -- at 156: .if_icmp .ge 17
          refine tr_geN (tgt := 173) dX8_test_156 (by decide) (by omega) (by omega) (fun h3 => ?_) (fun h3 => ?_)
          · refine tr_iconst (v := nI 0) dX8_test_173 (by decide) ?_
            refine tr_istore_8 dX8_test_174 (by decide) (by first | rfl | assumption) ?_
            refine tr_iconst (v := nI 0) dX8_test_176 (by decide) ?_
            refine tr_istore_9 dX8_test_177 (by decide) (by first | rfl | assumption) ?_
            -- at 179: .iload 9
            have hfl2 : ∀ k, k < 6 → μ2.1 116 (21 * k + (t + 1)) = nI (g k) := fun k hk => by rw [(p1 116 (by omega)).1]; exact hfl k hk
            have hGs : ∀ k, k < 6 → grk b g (k + 1) 10 = max (grk b g k 10) (cnM b g (g k) (k + 1)) := fun k hk => by
              have := grk_s b g k 10
              rw [if_pos (hgl k hk)] at this
              exact this
            have hkey := l_test3 (X := X) (d := d) (μ := μ2) (i := i) (j := j) (Q := PM μ0 P) (am := am) (bst := kdR (tsR b (nowM σ) i t).1) (lst := nI (tsR b (nowM σ) i t).2) (b := b) (t := t) (g := g) (G := fun k => grk b g k 10) hb hgl (fun k hk => by have := grk_le b g k 10; omega) hGs (by omega) hfl2 p2 c3 (fun w μ3 d1 u1 => ?_)
            · rw [grk_0] at hkey
              exact hkey
            · have hs3 := (hP.trans p1).trans u1
              rw [grk_6]
              clear hGs hfl2 hfl hgl ets hF
              generalize grM b g 10 = gr at *
              generalize tsR b (nowM σ) i t = T at *
              refine tr_iload dX8_test_257 rfl ?_
              refine tr_iload dX8_test_259 rfl ?_
              -- at 261: .if_icmp .ge 8
              refine tr_geN (tgt := 269) dX8_test_261 (by decide) (by omega) (by omega) (fun h5 => ?_) (fun h5 => ?_)
              · rw [if_neg (by omega)] at ih
                refine tr_iload dX8_test_269 rfl ?_
                refine tr_istore_5 dX8_test_271 (by decide) (by first | rfl | assumption) ?_
                refine tr_iload dX8_test_273 rfl ?_
                refine tr_iload dX8_test_275 rfl ?_
                -- at 277: .if_icmp .ge 8
                refine tr_geN (tgt := 285) dX8_test_277 (by decide) (by omega) (by omega) (fun h6 => ?_) (fun h6 => ?_)
                · refine tr_iload dX8_test_285 rfl ?_
                  refine tr_istore_6 dX8_test_287 (by decide) (by first | rfl | assumption) ?_
                  first | with_reducible refine tr_iincN_7 dX8_test_289 (by decide) rfl ?_ | with_reducible refine tr_iincN_7 dX8_test_289 (by decide) (by assumption) ?_ | refine tr_iinc_7 dX8_test_289 (by decide) (by first | rfl | assumption) ?_
                  refine tr_goto (tgt := 137) dX8_test_292 (by decide) ?_
                  -- at 137: .iload 7
                  exact ih _ _ _ μ3 rfl rfl d1 hs3
                · omega
              · rw [if_pos (by omega)] at ih
                refine tr_iload dX8_test_264 rfl ?_
                refine tr_goto (tgt := 271) dX8_test_266 (by decide) ?_
                refine tr_istore_5 dX8_test_271 (by decide) (by first | rfl | assumption) ?_
                refine tr_iload dX8_test_273 rfl ?_
                refine tr_iload dX8_test_275 rfl ?_
                -- at 277: .if_icmp .ge 8
                refine tr_geN (tgt := 285) dX8_test_277 (by decide) (by omega) (by omega) (fun h6 => ?_) (fun h6 => ?_)
                · omega
                · refine tr_iload dX8_test_280 rfl ?_
                  refine tr_goto (tgt := 287) dX8_test_282 (by decide) ?_
                  refine tr_istore_6 dX8_test_287 (by decide) (by first | rfl | assumption) ?_
                  first | with_reducible refine tr_iincN_7 dX8_test_289 (by decide) rfl ?_ | with_reducible refine tr_iincN_7 dX8_test_289 (by decide) (by assumption) ?_ | refine tr_iinc_7 dX8_test_289 (by decide) (by first | rfl | assumption) ?_
                  refine tr_goto (tgt := 137) dX8_test_292 (by decide) ?_
                  -- at 137: .iload 7
                  exact ih _ _ _ μ3 rfl rfl d1 hs3
          · omega
  · have hM1 := h.scr (hP.wide (fun b hb => by unfold scrM; omega))
    have hf1 := hf.trans (hP.fq (fun b hb => by omega))
    obtain ⟨N', hN'⟩ : ∃ N', N = N' + 1 := ⟨N - 1, by omega⟩
    have e20 : tsR b (nowM σ) i N = T := by rw [← eT, hN']; exact tsR_eq b (nowM σ) i N'
    have hsm : T.1 ≠ none := by rw [← e20, hN']; exact tsR_some b (nowM σ) i N'
    have hkl : ∀ k, T.1 = some k → k ≤ N := by rw [← e20]; exact (tsR_le b (nowM σ) i N).2
    rw [e20]
    clear hF eT e20
    obtain ⟨T1, T2⟩ := T
    cases T1 with
    | none => exact absurd rfl hsm
    | some k =>
      have hk := hkl k rfl
      refine tr_iload dX8_test_137 rfl ?_
      refine tr_bipush (v := nI 21) dX8_test_139 (by decide) ?_
      -- at 141: .if_icmp .ge 154
      refine tr_geN (tgt := 295) dX8_test_141 (by decide) (by omega) (by omega) (fun h1 => ?_) (fun h1 => ?_)
      · refine tr_aload_n dX8_test_295 rfl ?_
        refine tr_iload dX8_test_296 rfl ?_
        refine tr_bipush (v := -9) dX8_test_298 (by decide) ?_
        -- at 300: .if_icmp .ne 10
        refine tr_icmp_ne (tgt := 310) dX8_test_300 (by decide) (fun h2 => ?_) (fun h2 => ?_)
        · refine tr_iload dX8_test_310 rfl ?_
          refine tr_putI dX8_test_312 fp_RX8_70 (by first | assumption | decide) (by first | assumption | rfl) rfl ?_
          refine tr_iload dX8_test_315 rfl ?_
          -- at 317: .ireturn
          refine tr_iret dX8_test_317 (by first | exact trivial | rfl) (pm_e eP rfl (hM1.asked _) (hf1.trans (((sP.rf (fun b => b = 99) μ1).put _ rfl).fq (fun b hb => by omega))))
        · exact absurd h2 (nI_m9 (by omega))
      · omega
theorem r_test (h : MI μ σ) (hW : WI σ) : cp X (d + 6) kX8_test [.ref 99, .int x, .int r] μ (PM μ (S_test σ x r)) := by
  have hw := hW.now
  have h7 := hw.1
  refine cp_of ok_X8_test (L := [.ref 99, .int x, .int r, .float 0, .float 0, .float 0, .float 0, .float 0, .float 0, .float 0, .float 0]) rfl ?_
  refine tr_aload_n dX8_test_0 rfl ?_
  refine tr_iload_n dX8_test_1 rfl ?_
  -- at 2: .invokevirtual 126
  refine tr_Vi (As := [_]) dX8_test_2 fm_RX8_126 rfl rfl (by first | assumption | decide) (by first | assumption | rfl) (Nat.le_of_ble_eq_true rfl) (r_isDrum h h7) (fun v μ1 ⟨e1, e2⟩ => ?_)
  subst μ1; subst v
  cases hx : ixV x (nowM σ 18) with
  | none =>
    have es : sref σ x r = some (-1, σ) := by simp only [sref, hx]
    refine tr_ifb0 (tgt := 15) dX8_test_5 (by decide) (fun h1 => ?_) (fun h1 => ?_)
    · refine tr_iconst (v := -1) dX8_test_15 (by decide) ?_
      exact tr_iret dX8_test_16 (by first | exact trivial | rfl) (pm_same h (by simp only [S_test, es]))
    · cases h1
  | some i =>
    obtain ⟨rfl, hi⟩ := ixV_some (by omega) hx
    refine tr_ifb0 (tgt := 15) dX8_test_5 (by decide) (fun h1 => ?_) (fun h1 => ?_)
    · cases h1
    · refine tr_iload_n dX8_test_8 rfl ?_
      -- at 9: .invokestatic 77
      refine tr_Si (As := [_]) dX8_test_9 fm_RX8_77 rfl rfl (Nat.le_of_ble_eq_true rfl) (r_isRow) (fun v μ1 ⟨e1, e2⟩ => ?_)
      subst μ1; subst v
      cases hr : ixV r 6 with
      | none =>
        have es : sref σ (nI i) r = some (-1, σ) := by simp only [sref, hx, hr]
        refine tr_ifb1 (tgt := 17) dX8_test_12 (by decide) (fun h2 => ?_) (fun h2 => ?_)
        · cases h2
        · refine tr_iconst (v := -1) dX8_test_15 (by decide) ?_
          exact tr_iret dX8_test_16 (by first | exact trivial | rfl) (pm_same h (by simp only [S_test, es]))
      | some j =>
        obtain ⟨rfl, hj⟩ := ixV_some (by omega) hr
        have hlt := unC_lt σ j
        refine tr_ifb1 (tgt := 17) dX8_test_12 (by decide) (fun h2 => ?_) (fun h2 => ?_)
        · refine tr_aload_n dX8_test_17 rfl ?_
          refine tr_iload_n dX8_test_18 rfl ?_
          -- at 19: .invokevirtual 184
          refine tr_Vi (As := [_]) dX8_test_19 fm_RX8_184 rfl rfl (by first | assumption | decide) (by first | assumption | rfl) (Nat.le_of_ble_eq_true rfl) (r_unfit h hj) (fun v μ1 ⟨e1, e2⟩ => ?_)
          subst μ1; subst v
          refine tr_istore_n_3 dX8_test_22 (by decide) (by first | rfl | assumption) ?_
          refine tr_iload_n dX8_test_23 rfl ?_
          -- at 24: .ifCond .eq 9
          refine tr_if0N (tgt := 33) dX8_test_24 (by decide) (by omega) (fun h4 => ?_) (fun h4 => ?_)
          · have es : sref σ (nI i) (nI j) = none := by rw [sref_un hi h7 hj, if_pos h4]
            obtain ⟨i', j', n, f, q1, q2, q3, q4, ho, q6, q7, q8⟩ := sref_none es h7
            rw [nI_eq (by omega) (by omega)] at q1 q3
            subst q1; subst q3
            have eS : S_test σ (nI i) (nI j) = if fitM 19 (nowM σ) i n f 6 = 0 then (-9, σ) else (kdR (tsM (fitM 19 (nowM σ) i n f 6) (nowM σ) i 20).1, gA σ (nI (tsM (fitM 19 (nowM σ) i n f 6) (nowM σ) i 20).2)) := by
              simp only [S_test, es, nI_clamp (show i < 2 ^ 31 by omega), nI_clamp (show j < 2 ^ 31 by omega), ho]
            rw [eS]
            have hbl := fitM_lt 19 (nowM σ) i n f 6
            refine tr_aload_n dX8_test_33 rfl ?_
            refine tr_bipush (v := nI 19) dX8_test_34 (by decide) ?_
            refine tr_iconst (v := nI 5) dX8_test_36 (by decide) ?_
            refine tr_iload_n dX8_test_37 rfl ?_
            refine tr_iload_n dX8_test_38 rfl ?_
            -- at 39: .invokevirtual 187
            refine tr_Vi (As := [_, _, _, _]) dX8_test_39 fm_RX8_187 rfl rfl (by first | assumption | decide) (by first | assumption | rfl) (Nat.le_of_ble_eq_true rfl) (r_fitting h hW hj ho (by omega) (by omega) (by omega) (fun v hv => hw.kind (by omega) (by omega))) (fun v μ1 ⟨e1, e2⟩ => ?_)
            subst v
            rw [show 5 + 1 = 6 from rfl]
            generalize fitM 19 (nowM σ) i n f 6 = b at *
            refine tr_istore_4 dX8_test_42 (by decide) (by first | rfl | assumption) ?_
            refine tr_iconst (v := nI 0) dX8_test_44 (by decide) ?_
            refine tr_istore_5 dX8_test_45 (by decide) (by first | rfl | assumption) ?_
            -- at 47: .iload 5
            refine l_test1 (h.same107 e1) hW (by omega) (fun w5 w6 μ' c5 c6 hs hF => ?_) μ1 (sP.rf _ μ1)
            have hM := (h.same107 e1).scr hs
            have hf := (fq107 e1).trans (hs.fq (fun b hb => scrM_ge hb))
            refine tr_bipush (v := -9) dX8_test_126 (by decide) ?_
            refine tr_istore_5 dX8_test_128 (by decide) (by first | rfl | assumption) ?_
            refine tr_bipush (v := nI 99) dX8_test_130 (by decide) ?_
            refine tr_istore_6 dX8_test_132 (by decide) (by first | rfl | assumption) ?_
            refine tr_iconst (v := nI 1) dX8_test_134 (by decide) ?_
            refine tr_istore_7 dX8_test_135 (by decide) (by first | rfl | assumption) ?_
            -- at 137: .iload 7
            by_cases hb0 : b = 0
            · rw [if_pos hb0]
              have h14 := hM.2.2.2.2.2.2.1
              refine tr_iload dX8_test_137 rfl ?_
              refine tr_bipush (v := nI 21) dX8_test_139 (by decide) ?_
              -- at 141: .if_icmp .ge 154
              refine tr_geN (tgt := 295) dX8_test_141 (by decide) (by omega) (by omega) (fun h5 => ?_) (fun h5 => ?_)
              · omega
              · refine tr_iload dX8_test_144 rfl ?_
                -- at 146: .ifCond .eq 149
                refine tr_if0N (tgt := 295) dX8_test_146 (by decide) (by omega) (fun h6 => ?_) (fun h6 => ?_)
                · refine tr_aload_n dX8_test_295 rfl ?_
                  refine tr_iload dX8_test_296 rfl ?_
                  refine tr_bipush (v := -9) dX8_test_298 (by decide) ?_
                  -- at 300: .if_icmp .ne 10
                  refine tr_icmp_ne (tgt := 310) dX8_test_300 (by decide) (fun h8 => ?_) (fun h8 => ?_)
                  · exact absurd rfl h8
                  · refine tr_aload_n dX8_test_303 rfl ?_
                    refine tr_getI dX8_test_304 fg_RX8_70 (by first | assumption | decide) (by first | assumption | rfl) rfl (by first | assumption | rfl) ?_
                    refine tr_goto (tgt := 312) dX8_test_307 (by decide) ?_
                    refine tr_putI dX8_test_312 fp_RX8_70 (by first | assumption | decide) (by first | assumption | rfl) rfl ?_
                    refine tr_iload dX8_test_315 rfl ?_
                    -- at 317: .ireturn
                    refine tr_iret dX8_test_317 (by first | exact trivial | rfl) ⟨rfl, hM.asked (sA σ), hf.trans (((sP.rf (fun b => b = 99) μ').put _ rfl).fq (fun b hb => by omega))⟩
                · exact absurd hb0 h6
            · rw [if_neg hb0]
              generalize hT : tsM b (nowM σ) i 20 = T
              exact l_test2 rfl hT hM hW (by omega) (by omega) hb0 hF hf rfl
          · have es : sref σ (nI i) (nI j) = some (-3, gF σ (unC σ j)) := by rw [sref_un hi h7 hj, if_neg h4]
            refine tr_aload_n dX8_test_27 rfl ?_
            refine tr_iload_n dX8_test_28 rfl ?_
            -- at 29: .invokevirtual 81
            refine tr_Vi (As := [_]) dX8_test_29 fm_RX8_81 rfl rfl (by first | assumption | decide) (by first | assumption | rfl) (Nat.le_of_ble_eq_true rfl) (r_finds hlt h) (fun v μ1 ⟨e1, e2, e3⟩ => ?_)
            refine tr_iret dX8_test_32 (by first | exact trivial | rfl) (pm_e (by simp only [S_test, es]) e1 e2 e3)
        · cases h2
end M11
