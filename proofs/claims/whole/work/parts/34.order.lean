-- ===== OrderSearch: search =====
def stO (N : Nat) (g : Nat → Nat) (rec : List Nat → Nat → NF → Nat × List Nat → Nat × List Nat) (ps : List Nat) (t : Nat) (c : NF) (acc : Nat × List Nat) (q : Nat) : Nat × List Nat := if q ∈ ps then acc else if tM 61 (aimM (c 18) (g q) c) ≤ 60 ∧ t + tM 61 (aimM (c 18) (g q) c) < acc.1 then rec (ps ++ [q]) (t + tM 61 (aimM (c 18) (g q) c)) (goI (tM 61 (aimM (c 18) (g q) c)) (aimM (c 18) (g q) c)) acc else acc
def foO (N : Nat) (g : Nat → Nat) (rec : List Nat → Nat → NF → Nat × List Nat → Nat × List Nat) (ps : List Nat) (t : Nat) (c : NF) (acc : Nat × List Nat) : Nat → Nat × List Nat
  | 0 => acc
  | k + 1 => stO N g rec ps t c (foO N g rec ps t c acc k) k
def dfs (N : Nat) (g : Nat → Nat) : Nat → List Nat → Nat → NF → Nat × List Nat → Nat × List Nat
  | 0, ps, t, _, _ => (t, ps)
  | m + 1, ps, t, c, acc => foO N g (dfs N g m) ps t c acc N
def usM : List Nat → Nat
  | [] => 0
  | q :: l => 2 ^ q ||| usM l
theorem usM_app : ∀ (l : List Nat) (q : Nat), usM (l ++ [q]) = usM l ||| 2 ^ q
  | [], q => by simp [usM]
  | x :: l, q => by rw [List.cons_append, usM, usM, usM_app l q, Nat.or_assoc]
theorem usM_bit : ∀ (l : List Nat) (q : Nat), (usM l).testBit q = decide (q ∈ l)
  | [], q => by simp [usM]
  | x :: l, q => by
    rw [usM, Nat.testBit_or, usM_bit l q, Nat.testBit_two_pow]
    by_cases e : x = q
    · subst e; simp
    · have e2 : ¬ q = x := fun h => e h.symm
      simp [e, e2]
theorem usM_lt : ∀ (l : List Nat) (n : Nat), (∀ q ∈ l, q < n) → usM l < 2 ^ n
  | [], n, _ => Nat.pow_pos (by omega)
  | x :: l, n, h => Nat.or_lt_two_pow (Nat.pow_lt_pow_right (by omega) (h x List.mem_cons_self)) (usM_lt l n (fun q hq => h q (List.mem_cons_of_mem _ hq)))
def OS (μ : am_M) (ps : List Nat) (acc : Nat × List Nat) : Prop := (∀ k, k < ps.length → μ.1 30 k = nI (ps.getD k 0)) ∧ μ.1 28 3 = nI acc.1 ∧ acc.1 ≤ 301 ∧ ∀ k, k < acc.2.length → μ.1 29 k = nI (acc.2.getD k 0)
abbrev pO (T b : Nat) : Prop := (28 ≤ b ∧ b < 32) ∨ (32 + 5 * (T + 1) ≤ b ∧ b < 62)
theorem bit5 : ∀ b, b < 32 → ∀ k, k < 5 → (nI b >>> (nI k &&& 31)) &&& nI 1 = nI (bN (b.testBit k)) := by decide +kernel
section OR
variable {X : Nat × (Nat → Int32)} {d : Nat} {μ : am_M} {σ : SG} {j N : Nat} {f : Nat → Int32} {g : Nat → Nat}
theorem l_go {m0 : am_M} {m T t : Nat} {ps : List Nat} {c : NF} {acc : Nat × List Nat} (hj : j < 6) (hN : N ≤ 5) (hg : ∀ k, k < N → f k = nI (g k) ∧ g k < 2 ^ 31) (hT : T + (m + 1) = N) (hps : ps.length = T) (hin : ∀ q ∈ ps, q < N) (ht : t ≤ 301) (hw : wfc c) (hrec : ∀ (ps : List Nat) (t : Nat) (c : NF) (acc : Nat × List Nat) (μ : am_M), ps.length = T + 1 → (∀ q ∈ ps, q < N) → t ≤ 301 → wfc c → BR μ (32 + 5 * (T + 1)) c → XR 40 μ (73 + 2 * j) (some (N, f)) → OS μ ps acc → cp X (d + m + 5) kX2_goOn [.ref 28, .ref (73 + 2 * j), .int (nI (T + 1)), .int (nI (usM ps)), .int (nI t)] μ (qv (fun μ' => sP (pO (T + 1)) μ μ' ∧ OS μ' ps (dfs N g m ps t c acc)))) : ∀ (r k : Nat) (v7 : Value) (μ : am_M), k + r = N → BR μ (32 + 5 * T) c → XR 40 μ (73 + 2 * j) (some (N, f)) → OS μ ps (foO N g (dfs N g m) ps t c acc k) → sP (pO T) m0 μ → tw X (d + m + 5) kX2_goOn (qv (fun μ' => sP (pO T) m0 μ' ∧ OS μ' ps (dfs N g (m + 1) ps t c acc))) 47 [.ref 28, .ref (73 + 2 * j), .int (nI T), .int (nI (usM ps)), .int (nI t), .ref (32 + 5 * (T + 1)), .int (nI k), v7] [] μ
  | r, k, v7, μ, hkr, hr, hX, hO, hs => by
    obtain ⟨⟨i0, i1⟩, s0, s1⟩ := isR_r hj
    have hw1 := hw.1
    have x1 := hX.1
    have x2 := hX.2.1
    obtain ⟨⟨bi0, bi1, bi2, bi3, bi4⟩, bs0, bs1, bs2, bs3, bs4⟩ := isB_m (show T + 1 < 6 by omega)
    have hus := usM_lt ps 5 (fun q hq => by have := hin q hq; omega)
    refine tr_iload dX2_goOn_47 rfl ?_
    refine tr_aload_n dX2_goOn_49 rfl ?_
    refine tr_getI dX2_goOn_50 fg_RX2_37 (by first | assumption | decide) (by first | assumption | rfl) rfl (by first | assumption | rfl) ?_
    -- at 53: .if_icmp .ge 96
    refine tr_geN (tgt := 149) dX2_goOn_53 (by decide) (by omega) (by omega) (fun h1 => ?_) (fun h1 => ?_)
    · obtain rfl : k = N := by omega
      -- at 149: .return_
      refine tr_vret dX2_goOn_149 (by first | exact trivial | rfl) ⟨hs, hO⟩
    · have x3 := hX.2.2 k h1
      obtain ⟨y1, y2⟩ := hg k h1
      rw [y1] at x3
      refine tr_iload_n dX2_goOn_56 rfl ?_
      refine tr_iload dX2_goOn_57 rfl ?_
      refine tr_ishr dX2_goOn_59 ?_
      refine tr_iconst (v := nI 1) dX2_goOn_60 (by decide) ?_
      refine tr_iand dX2_goOn_61 ?_
      -- at 62: .ifCond .ne 81
      refine tr_v (bit5 _ hus k (by omega)) ?_
      refine tr_ifb1 (tgt := 143) dX2_goOn_62 (by decide) (fun h2 => ?_) (fun h2 => ?_)
      · rw [usM_bit] at h2
        have h2' : k ∈ ps := of_decide_eq_true h2
        first | with_reducible refine tr_iincN_6 dX2_goOn_143 (by decide) rfl ?_ | refine tr_iinc_6 dX2_goOn_143 (by decide) rfl ?_
        refine tr_goto (tgt := 47) dX2_goOn_146 (by decide) ?_
        -- at 47: .iload 6
        exact l_go hj hN hg hT hps hin ht hw hrec (r - 1) (k + 1) v7 μ (by omega) hr hX (by rw [foO, stO, if_pos h2']; exact hO) hs
      · rw [usM_bit] at h2
        have h2' : ¬ k ∈ ps := of_decide_eq_false h2
        refine tr_aload dX2_goOn_65 rfl ?_
        refine tr_aload_n dX2_goOn_67 rfl ?_
        refine tr_getR dX2_goOn_68 fg_RX2_20 (by first | assumption | decide) (by first | assumption | rfl) rfl (by omega) ?_
        refine tr_iload_n dX2_goOn_71 rfl ?_
        -- at 72: .aaload
        refine tr_aald dX2_goOn_72 (by first | assumption | decide) (by first | assumption | rfl) (by decide) rfl (behind_at (show T < 6 by omega)) (by decide) ?_
        refine tr_Vv (As := [_]) dX2_goOn_73 fm_RX2_29 rfl rfl (by first | assumption | decide) (by first | assumption | rfl) (Nat.le_of_ble_eq_true rfl) (c_become (d := d + m + 4) (isB_m (show T + 1 < 6 by omega)) (isB_m (show T < 6 by omega)) (by omega) hr hw) (fun μ1 ⟨e1, e2⟩ => ?_)
        have hs1 := sP.of (P := pO T) e1 (fun b hb => by simp at hb; unfold pO; omega)
        have x4 : μ1.1 (73 + 2 * j + 1) k = nI (g k) := by rw [(hs1 (73 + 2 * j + 1) (by unfold pO; omega)).1]; exact x3
        refine tr_aload dX2_goOn_76 rfl ?_
        refine tr_aload_n dX2_goOn_78 rfl ?_
        refine tr_getR dX2_goOn_79 fg_RX2_48 (by first | assumption | decide) (by first | assumption | rfl) rfl (by omega) ?_
        refine tr_iload dX2_goOn_82 rfl ?_
        refine tr_iald dX2_goOn_84 (by first | assumption | decide) (by first | assumption | rfl) rfl (by omega) (by omega) (by first | assumption | rfl) ?_
        -- at 85: .invokevirtual 51
        refine tr_Vv (As := [_]) dX2_goOn_85 fm_RX2_51 rfl rfl (by first | assumption | decide) (by first | assumption | rfl) (Nat.le_of_ble_eq_true rfl) (c_aimAt (d := d + m + 4) y2 (isB_m (show T + 1 < 6 by omega)) e2 hw) (fun μ2 ⟨e3, e4⟩ => ?_)
        have hs2 := hs1.trans (sP.of (P := pO T) e3 (fun b hb => by simp at hb; unfold pO; omega))
        have hw2 := aimM_wf (c 18) (g k) c hw1 hw
        refine tr_aload dX2_goOn_88 rfl ?_
        refine tr_bipush (v := nI 60) dX2_goOn_90 (by decide) ?_
        -- at 92: .invokevirtual 55
        rw [show nI 60 = nI 61 - 1 by decide]
        refine tr_Vi (As := [_]) dX2_goOn_92 fm_RX2_55 rfl rfl (by first | assumption | decide) (by first | assumption | rfl) (Nat.le_of_ble_eq_true rfl) (c_ticks (d := d + m + 1) (N := 61) (by omega) (isB_m (show T + 1 < 6 by omega)) e4 hw2) (fun v μ3 ⟨e5, e6, e7, e8⟩ => ?_)
        subst v
        have hb3 : ∀ b, b = 28 ∨ b = 29 ∨ b = 30 → μ3.1 b = μ.1 b := fun b hb => by rw [e5.1 b (by simp; omega), e3.1 b (by simp; omega), e1.1 b (by simp; omega)]
        have hs3 := hs2.trans (sP.of (P := pO T) e5 (fun b hb => by simp at hb; unfold pO; omega))
        have hO3 : OS μ3 ps (foO N g (dfs N g m) ps t c acc k) := ⟨fun q hq => by rw [hb3 30 (by omega)]; exact hO.1 q hq, by rw [hb3 28 (by omega)]; exact hO.2.1, hO.2.2.1, fun q hq => by rw [hb3 29 (by omega)]; exact hO.2.2.2 q hq⟩
        have hr3 : BR μ3 (32 + 5 * T) c := hr.keep (fun b b1 b2 => (hs3 b (by unfold pO; omega)).1)
        have hX3 : XR 40 μ3 (73 + 2 * j) (some (N, f)) := hX.kept (hs3 _ (by unfold pO; omega)).1 (hs3 _ (by unfold pO; omega)).1
        have hle := tM_le 61 (aimM (c 18) (g k) c)
        have o1 := hO3.2.1
        have o2 := hO3.2.2.1
        have est : foO N g (dfs N g m) ps t c acc (k + 1) = stO N g (dfs N g m) ps t c (foO N g (dfs N g m) ps t c acc k) k := rfl
        generalize foO N g (dfs N g m) ps t c acc k = ak at hO3 o1 o2 est
        have hno : ¬ (tM 61 (aimM (c 18) (g k) c) ≤ 60 ∧ t + tM 61 (aimM (c 18) (g k) c) < ak.1) → tw X (d + m + 5) kX2_goOn (qv (fun μ' => sP (pO T) m0 μ' ∧ OS μ' ps (dfs N g (m + 1) ps t c acc))) 143 [.ref 28, .ref (73 + 2 * j), .int (nI T), .int (nI (usM ps)), .int (nI t), .ref (32 + 5 * (T + 1)), .int (nI k), .int (nI (tM 61 (aimM (c 18) (g k) c)))] [] μ3 := by
          intro hn
          first | with_reducible refine tr_iincN_6 dX2_goOn_143 (by decide) rfl ?_ | refine tr_iinc_6 dX2_goOn_143 (by decide) rfl ?_
          refine tr_goto (tgt := 47) dX2_goOn_146 (by decide) ?_
          -- at 47: .iload 6
          exact l_go hj hN hg hT hps hin ht hw hrec (r - 1) (k + 1) _ μ3 (by omega) hr3 hX3 (by rw [est, stO, if_neg h2', if_neg hn]; exact hO3) (hs.trans hs3)
        refine tr_istore_7 dX2_goOn_95 (by decide) rfl ?_
        refine tr_iload dX2_goOn_97 rfl ?_
        refine tr_bipush (v := nI 60) dX2_goOn_99 (by decide) ?_
        -- at 101: .if_icmp .gt 42
        refine tr_gtN (tgt := 143) dX2_goOn_101 (by decide) (by omega) (by omega) (fun h3 => ?_) (fun h3 => ?_)
        · exact hno (fun q => by omega)
        · refine tr_iload dX2_goOn_104 rfl ?_
          refine tr_iload dX2_goOn_106 rfl ?_
          first | with_reducible refine tr_iaddN dX2_goOn_108 ?_ | refine tr_iadd dX2_goOn_108 ?_
          refine tr_aload_n dX2_goOn_109 rfl ?_
          refine tr_getI dX2_goOn_110 fg_RX2_25 (by first | assumption | decide) (by first | assumption | rfl) rfl (by first | assumption | rfl) ?_
          -- at 113: .if_icmp .ge 30
          refine tr_geN (tgt := 143) dX2_goOn_113 (by decide) (by omega) (by omega) (fun h4 => ?_) (fun h4 => ?_)
          · exact hno (fun q => by omega)
          · have est2 : foO N g (dfs N g m) ps t c acc (k + 1) = dfs N g m (ps ++ [k]) (t + tM 61 (aimM (c 18) (g k) c)) (goI (tM 61 (aimM (c 18) (g k) c)) (aimM (c 18) (g k) c)) ak := by rw [est, stO, if_neg h2', if_pos ⟨h3, h4⟩]
            have hb4 := e7 (by omega)
            refine tr_aload_n dX2_goOn_116 rfl ?_
            refine tr_getR dX2_goOn_117 fg_RX2_15 (by first | assumption | decide) (by first | assumption | rfl) rfl (by omega) ?_
            refine tr_iload_n dX2_goOn_120 rfl ?_
            refine tr_iload dX2_goOn_121 rfl ?_
            refine tr_iast dX2_goOn_123 (by first | assumption | decide) (by first | assumption | rfl) rfl (by omega) (by omega) ?_
            -- at 124: .aload_n 0
            have hs4 := hs3.put (a := 30) (upd (μ3.1 30) T (nI k)) (by unfold pO; omega)
            have hr4 : BR (sI μ3 30 (upd (μ3.1 30) T (nI k))) (32 + 5 * T) c := hr3.keep (fun b b1 b2 => sI_ne _ _ (by omega))
            have hX4 : XR 40 (sI μ3 30 (upd (μ3.1 30) T (nI k))) (73 + 2 * j) (some (N, f)) := hX3.kept (sI_ne _ _ (by omega)) (sI_ne _ _ (by omega))
            have hn4 : BR (sI μ3 30 (upd (μ3.1 30) T (nI k))) (32 + 5 * (T + 1)) (goI (tM 61 (aimM (c 18) (g k) c)) (aimM (c 18) (g k) c)) := hb4.keep (fun b b1 b2 => sI_ne _ _ (by omega))
            have hO4 : OS (sI μ3 30 (upd (μ3.1 30) T (nI k))) (ps ++ [k]) ak := by
              refine ⟨fun q hq => ?_, by rw [sI_ne _ _ (by omega)]; exact o1, o2, fun q hq => by rw [sI_ne _ _ (by omega)]; exact hO3.2.2.2 q hq⟩
              rw [sI_same]
              rw [List.length_append, List.length_singleton] at hq
              by_cases e : q = T
              · subst e; rw [pk_us, ← hps]; simp
              · rw [pk_un e, hO3.1 q (by omega)]
                simp [List.getD_eq_getElem?_getD, List.getElem?_append_left (show q < ps.length by omega)]
            generalize sI μ3 30 (upd (μ3.1 30) T (nI k)) = μ4 at hs4 hr4 hX4 hn4 hO4 ⊢
            have hin' : ∀ q ∈ ps ++ [k], q < N := by
              intro q hq
              rcases List.mem_append.mp hq with a | a
              · exact hin q a
              · rw [List.mem_singleton.mp a]; exact h1
            refine tr_aload_n dX2_goOn_124 rfl ?_
            refine tr_aload_n dX2_goOn_125 rfl ?_
            refine tr_iload_n dX2_goOn_126 rfl ?_
            refine tr_iconst (v := nI 1) dX2_goOn_127 (by decide) ?_
            first | with_reducible refine tr_iaddN dX2_goOn_128 ?_ | refine tr_iadd dX2_goOn_128 ?_
            refine tr_iload_n dX2_goOn_129 rfl ?_
            refine tr_iconst (v := nI 1) dX2_goOn_130 (by decide) ?_
            refine tr_iload dX2_goOn_131 rfl ?_
            refine tr_ishl dX2_goOn_133 ?_
            refine tr_ior dX2_goOn_134 ?_
            -- at 135: .iload 4
            refine tr_v (or_bit10 k (by omega) (usM ps) (by omega)) ?_
            rw [← usM_app]
            refine tr_iload dX2_goOn_135 rfl ?_
            refine tr_iload dX2_goOn_137 rfl ?_
            first | with_reducible refine tr_iaddN dX2_goOn_139 ?_ | refine tr_iadd dX2_goOn_139 ?_
            -- at 140: .invokevirtual 33
            refine tr_Vv (As := [_, _, _, _]) dX2_goOn_140 fm_RX2_33 rfl rfl (by first | assumption | decide) (by first | assumption | rfl) (Nat.le_of_ble_eq_true rfl) (hrec (ps ++ [k]) _ _ ak μ4 (by simp; omega) hin' (by omega) (goI_wf _ _ hw2) hn4 hX4 hO4) (fun μ5 ⟨e9, e10⟩ => ?_)
            have hs5 := hs4.trans (e9.wide (fun b hb => by unfold pO at hb ⊢; omega))
            have hr5 : BR μ5 (32 + 5 * T) c := hr4.keep (fun b b1 b2 => (e9 b (by unfold pO; omega)).1)
            have hX5 : XR 40 μ5 (73 + 2 * j) (some (N, f)) := hX4.kept (e9 _ (by unfold pO; omega)).1 (e9 _ (by unfold pO; omega)).1
            have hO5 : OS μ5 ps (foO N g (dfs N g m) ps t c acc (k + 1)) := by
              rw [est2]
              refine ⟨fun q hq => ?_, e10.2⟩
              rw [e10.1 q (by simp; omega)]
              simp [List.getD_eq_getElem?_getD, List.getElem?_append_left hq]
            first | with_reducible refine tr_iincN_6 dX2_goOn_143 (by decide) rfl ?_ | refine tr_iinc_6 dX2_goOn_143 (by decide) rfl ?_
            refine tr_goto (tgt := 47) dX2_goOn_146 (by decide) ?_
            -- at 47: .iload 6
            exact l_go hj hN hg hT hps hin ht hw hrec (r - 1) (k + 1) _ μ5 (by omega) hr5 hX5 hO5 (hs.trans hs5)
  termination_by r => r
theorem c_goOn (hj : j < 6) (hN : N ≤ 5) (hg : ∀ k, k < N → f k = nI (g k) ∧ g k < 2 ^ 31) : ∀ (m T : Nat) (ps : List Nat) (t : Nat) (c : NF) (acc : Nat × List Nat) (μ : am_M), T + m = N → ps.length = T → (∀ q ∈ ps, q < N) → t ≤ 301 → wfc c → BR μ (32 + 5 * T) c → XR 40 μ (73 + 2 * j) (some (N, f)) → OS μ ps acc → cp X (d + m + 5) kX2_goOn [.ref 28, .ref (73 + 2 * j), .int (nI T), .int (nI (usM ps)), .int (nI t)] μ (qv (fun μ' => sP (pO T) μ μ' ∧ OS μ' ps (dfs N g m ps t c acc)))
  | 0, T, ps, t, c, acc, μ, hT, hps, hin, ht, hw, hr, hX, hO => by
    obtain ⟨⟨i0, i1⟩, s0, s1⟩ := isR_r hj
    have x1 := hX.1
    refine cp_of ok_X2_goOn (L := [.ref 28, .ref (73 + 2 * j), .int (nI T), .int (nI (usM ps)), .int (nI t), .float 0, .float 0, .float 0]) rfl ?_
    refine tr_iload_n dX2_goOn_0 rfl ?_
    refine tr_aload_n dX2_goOn_1 rfl ?_
    refine tr_getI dX2_goOn_2 fg_RX2_37 (by first | assumption | decide) (by first | assumption | rfl) rfl (by first | assumption | rfl) ?_
    -- at 5: .if_icmp .ge 8
    refine tr_geN (tgt := 13) dX2_goOn_5 (by decide) (by omega) (by omega) (fun h1 => ?_) (fun h1 => ?_)
    · refine tr_aload_n dX2_goOn_13 rfl ?_
      refine tr_iload dX2_goOn_14 rfl ?_
      refine tr_putI dX2_goOn_16 fp_RX2_25 (by first | assumption | decide) (by first | assumption | rfl) rfl ?_
      -- at 19: .aload_n 0
      have hs1 := (sP.rf (pO T) μ).put (a := 28) (upd (μ.1 28) 3 (nI t)) (by unfold pO; omega)
      have k1 : (sI μ 28 (upd (μ.1 28) 3 (nI t))).1 28 3 = nI t := by rw [sI_same, pk_us]
      have k2 : (sI μ 28 (upd (μ.1 28) 3 (nI t))).1 30 = μ.1 30 := sI_ne _ _ (by omega)
      generalize sI μ 28 (upd (μ.1 28) 3 (nI t)) = μ1 at hs1 k1 k2 ⊢
      refine tr_aload_n dX2_goOn_19 rfl ?_
      refine tr_getR dX2_goOn_20 fg_RX2_15 (by first | assumption | decide) (by first | assumption | rfl) rfl (by omega) ?_
      refine tr_iconst (v := nI 0) dX2_goOn_23 (by decide) ?_
      refine tr_aload_n dX2_goOn_24 rfl ?_
      refine tr_getR dX2_goOn_25 fg_RX2_9 (by first | assumption | decide) (by first | assumption | rfl) rfl (by omega) ?_
      refine tr_iconst (v := nI 0) dX2_goOn_28 (by decide) ?_
      refine tr_iload_n dX2_goOn_29 rfl ?_
      -- at 30: .invokestatic 42
      refine tr_acopy dX2_goOn_30 fa_RX2_42 (by first | assumption | decide) (by first | assumption | decide) (by first | assumption | rfl) (by first | assumption | rfl) rfl rfl rfl (by omega) (by omega) (by omega) (by omega) (Nat.le_of_ble_eq_true rfl) ?_
      have hs2 := hs1.put (a := 29) (va_cpy (μ1.1 30) (μ1.1 29) 0 0 T) (by unfold pO; omega)
      refine tr_vret dX2_goOn_33 (by first | exact trivial | rfl) ⟨hs2, ?_⟩
      refine ⟨fun q hq => by rw [sI_ne _ _ (by omega), k2]; exact hO.1 q hq, by rw [sI_ne _ _ (by omega)]; exact k1, ht, fun q hq => ?_⟩
      have hq' : q < ps.length := hq
      show (sI μ1 29 (va_cpy (μ1.1 30) (μ1.1 29) 0 0 T)).1 29 q = nI (ps.getD q 0)
      rw [sI_same, pk_cpy_in (by omega) (by omega)]
      simp only [Nat.sub_zero, Nat.zero_add]
      rw [k2]
      exact hO.1 q hq'
    · omega
  | m + 1, T, ps, t, c, acc, μ, hT, hps, hin, ht, hw, hr, hX, hO => by
    obtain ⟨⟨i0, i1⟩, s0, s1⟩ := isR_r hj
    have x1 := hX.1
    refine cp_of ok_X2_goOn (L := [.ref 28, .ref (73 + 2 * j), .int (nI T), .int (nI (usM ps)), .int (nI t), .float 0, .float 0, .float 0]) rfl ?_
    refine tr_iload_n dX2_goOn_0 rfl ?_
    refine tr_aload_n dX2_goOn_1 rfl ?_
    refine tr_getI dX2_goOn_2 fg_RX2_37 (by first | assumption | decide) (by first | assumption | rfl) rfl (by first | assumption | rfl) ?_
    -- at 5: .if_icmp .ge 8
    refine tr_geN (tgt := 13) dX2_goOn_5 (by decide) (by omega) (by omega) (fun h1 => ?_) (fun h1 => ?_)
    · omega
    · refine tr_iload_n dX2_goOn_8 rfl ?_
      refine tr_iconst (v := nI 5) dX2_goOn_9 (by decide) ?_
      -- at 10: .if_icmp .lt 24
      refine tr_ltN (tgt := 34) dX2_goOn_10 (by decide) (by omega) (by omega) (fun h2 => ?_) (fun h2 => ?_)
      · refine tr_aload_n dX2_goOn_34 rfl ?_
        refine tr_getR dX2_goOn_35 fg_RX2_20 (by first | assumption | decide) (by first | assumption | rfl) rfl (by omega) ?_
        refine tr_iload_n dX2_goOn_38 rfl ?_
        refine tr_iconst (v := nI 1) dX2_goOn_39 (by decide) ?_
        first | with_reducible refine tr_iaddN dX2_goOn_40 ?_ | refine tr_iadd dX2_goOn_40 ?_
        -- at 41: .aaload
        refine tr_aald dX2_goOn_41 (by first | assumption | decide) (by first | assumption | rfl) (by decide) rfl (behind_at (show T + 1 < 6 by omega)) (by decide) ?_
        refine tr_astore_5 dX2_goOn_42 (by decide) rfl ?_
        refine tr_iconst (v := nI 0) dX2_goOn_44 (by decide) ?_
        refine tr_istore_6 dX2_goOn_45 (by decide) rfl ?_
        -- at 47: .iload 6
        exact l_go hj hN hg hT hps hin ht hw (fun ps' t' c' acc' μ' a1 a2 a3 a4 a5 a6 a7 => c_goOn hj hN hg m (T + 1) ps' t' c' acc' μ' (by omega) a1 a2 a3 a4 a5 a6 a7) N 0 _ μ (by omega) hr hX hO (sP.rf _ μ)
      · omega
theorem c_search {c : NF} (hj : j < 6) (hN : N ≤ 5) (hg : ∀ k, k < N → f k = nI (g k) ∧ g k < 2 ^ 31) (hw : wfc c) (hr : BR μ 10 c) (hX : XR 40 μ (73 + 2 * j) (some (N, f))) {D : Nat × List Nat} (hD : D = dfs N g N [] 0 c (301, [])) : cp X (d + N + 6) kX2_search [.ref 28, .ref 10, .ref (73 + 2 * j)] μ (qi (fun v μ' => sP scr μ μ' ∧ v = (if D.1 = 301 then -9 else nI D.1) ∧ D.1 ≤ 301 ∧ ∀ k, k < D.2.length → μ'.1 29 k = nI (D.2.getD k 0))) := by
  obtain ⟨⟨i0, i1⟩, s0, s1⟩ := isR_r hj
  refine cp_of ok_X2_search (L := [.ref 28, .ref 10, .ref (73 + 2 * j)]) rfl ?_
  refine tr_aload_n dX2_search_0 rfl ?_
  refine tr_sipush (v := nI 301) dX2_search_1 (by decide) ?_
  refine tr_putI dX2_search_4 fp_RX2_25 (by first | assumption | decide) (by first | assumption | rfl) rfl ?_
  -- at 7: .aload_n 0
  have hs1 := (sP.rf scr μ).put (a := 28) (upd (μ.1 28) 3 (nI 301)) (by unfold scr; omega)
  have k1 : (sI μ 28 (upd (μ.1 28) 3 (nI 301))).1 28 3 = nI 301 := by rw [sI_same, pk_us]
  generalize sI μ 28 (upd (μ.1 28) 3 (nI 301)) = μ1 at hs1 k1 ⊢
  have hr1 : BR μ1 10 c := hr.keep (fun b b1 b2 => (hs1 b (by unfold scr; omega)).1)
  refine tr_aload_n dX2_search_7 rfl ?_
  refine tr_getR dX2_search_8 fg_RX2_20 (by first | assumption | decide) (by first | assumption | rfl) rfl (by omega) ?_
  refine tr_iconst (v := nI 0) dX2_search_11 (by decide) ?_
  -- at 12: .aaload
  refine tr_aald dX2_search_12 (by first | assumption | decide) (by first | assumption | rfl) (by decide) rfl (behind_at (r := 0) (by omega)) (by decide) ?_
  refine tr_aload_n dX2_search_13 rfl ?_
  -- at 14: .invokevirtual 29
  refine tr_Vv (As := [_]) dX2_search_14 fm_RX2_29 rfl rfl (by first | assumption | decide) (by first | assumption | rfl) (Nat.le_of_ble_eq_true rfl) (c_become (d := d + N + 4) (isB_m (r := 0) (by omega)) isB_10 (by omega) hr1 hw) (fun μ2 ⟨e1, e2⟩ => ?_)
  have hs2 := hs1.trans (sP.of (P := scr) e1 (fun b hb => by simp at hb; unfold scr; omega))
  have k2 : μ2.1 28 3 = nI 301 := by rw [e1.1 28 (by simp)]; exact k1
  have hX2 : XR 40 μ2 (73 + 2 * j) (some (N, f)) := hX.kept (hs2 _ (by unfold scr; omega)).1 (hs2 _ (by unfold scr; omega)).1
  have hO2 : OS μ2 [] (301, []) := by
    refine ⟨fun q hq => ?_, k2, Nat.le_refl 301, fun q hq => ?_⟩
    · exact absurd hq (Nat.not_lt_zero q)
    · exact absurd hq (Nat.not_lt_zero q)
  refine tr_aload_n dX2_search_17 rfl ?_
  refine tr_aload_n dX2_search_18 rfl ?_
  refine tr_iconst (v := nI 0) dX2_search_19 (by decide) ?_
  refine tr_iconst (v := nI 0) dX2_search_20 (by decide) ?_
  refine tr_iconst (v := nI 0) dX2_search_21 (by decide) ?_
  -- at 22: .invokevirtual 33
  refine tr_Vv (As := [_, _, _, _]) dX2_search_22 fm_RX2_33 rfl rfl (by first | assumption | decide) (by first | assumption | rfl) (Nat.le_of_ble_eq_true rfl) (c_goOn (d := d) hj hN hg N 0 [] 0 c (301, []) μ2 (by omega) rfl (fun q hq => by cases hq) (by omega) hw e2 hX2 hO2) (fun μ3 ⟨e3, e4⟩ => ?_)
  rw [← hD] at e4
  have o1 := e4.2.1
  have o2 := e4.2.2.1
  have hs3 := hs2.trans (e3.wide (fun b hb => by unfold pO at hb; unfold scr; omega))
  refine tr_aload_n dX2_search_25 rfl ?_
  refine tr_getI dX2_search_26 fg_RX2_25 (by first | assumption | decide) (by first | assumption | rfl) rfl (by first | assumption | rfl) ?_
  refine tr_sipush (v := nI 301) dX2_search_29 (by decide) ?_
  -- at 32: .if_icmp .ne 8
  refine tr_neN (tgt := 40) dX2_search_32 (by decide) (by omega) (by omega) (fun h1 => ?_) (fun h1 => ?_)
  · refine tr_aload_n dX2_search_40 rfl ?_
    refine tr_getI dX2_search_41 fg_RX2_25 (by first | assumption | decide) (by first | assumption | rfl) rfl (by first | assumption | rfl) ?_
    -- at 44: .ireturn
    refine tr_iret dX2_search_44 (by first | exact trivial | rfl) ⟨hs3, by rw [if_neg h1], o2, e4.2.2.2⟩
  · refine tr_bipush (v := -9) dX2_search_35 (by decide) ?_
    refine tr_goto (tgt := 44) dX2_search_37 (by decide) ?_
    -- at 44: .ireturn
    refine tr_iret dX2_search_44 (by first | exact trivial | rfl) ⟨hs3, by rw [if_pos h1], o2, e4.2.2.2⟩
end OR
