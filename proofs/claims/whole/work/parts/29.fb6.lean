-- ===== FlapBoard: kinds, marks, test =====
def shM (i : Nat) (f : Nat → Int32) : Nat → Nat → NF → Bool
  | 0, _, _ => true
  | m + 1, t, c => if nI (goC c (4 + i)) = f t then shM i f m (t + 1) (goC c) else false
def fitM (pl : Nat) (c : NF) (i n : Nat) (f : Nat → Int32) : Nat → Nat
  | 0 => 0
  | v + 1 => fitM pl c i n f v + (if shM i f n 0 (nu c (pl + i) v) = true then 2 ^ v else 0)
theorem fitM_lt (pl : Nat) (c : NF) (i n : Nat) (f : Nat → Int32) : ∀ v, fitM pl c i n f v < 2 ^ v
  | 0 => Nat.zero_lt_one
  | v + 1 => by
    have := fitM_lt pl c i n f v
    rw [fitM, Nat.pow_succ]
    split <;> omega
theorem or_bit10b : ∀ i, i < 10 → ∀ r, r < 2 ^ i → nI r ||| (nI 1 <<< (nI i &&& 31)) = nI (r + 2 ^ i) := by decide +kernel
theorem goI_s (c : NF) : ∀ n, goC (goI n c) = goI (n + 1) c := by
  intro n
  induction n generalizing c with
  | zero => rfl
  | succ n ih => rw [goI, ih]; rfl
theorem nu_id (c : NF) (i : Nat) : nu c i (c i) = c := by
  funext j
  by_cases e : j = i
  · subst e; rw [nu_s]
  · rw [nu_n _ _ e]
def cnM (b : Nat) (g : Nat → Nat) (q : Nat) : Nat → Nat
  | 0 => 0
  | k + 1 => cnM b g q k + bN (b.testBit k && decide (g k = q))
def grM (b : Nat) (g : Nat → Nat) : Nat → Nat
  | 0 => 0
  | q + 1 => max (grM b g q) (cnM b g q 6)
theorem cnM_le (b : Nat) (g : Nat → Nat) (q : Nat) : ∀ k, cnM b g q k ≤ k
  | 0 => Nat.le_refl 0
  | k + 1 => by
    have := cnM_le b g q k
    rw [cnM]
    have : bN (b.testBit k && decide (g k = q)) ≤ 1 := by unfold bN; split <;> omega
    omega
theorem grM_le (b : Nat) (g : Nat → Nat) : ∀ q, grM b g q ≤ 6
  | 0 => Nat.zero_le 6
  | q + 1 => by
    have := grM_le b g q
    have := cnM_le b g q 6
    rw [grM]; omega
def filM (c : NF) (i t k : Nat) : Nat := goI t (nu c (19 + i) k) (4 + i)
def tsM (b : Nat) (c : NF) (i : Nat) : Nat → Option Nat × Nat
  | 0 => (none, 7)
  | t + 1 => if grM b (filM c i (t + 1)) 10 < (tsM b c i t).2 then (some (t + 1), grM b (filM c i (t + 1)) 10) else tsM b c i t
theorem tsM_s (b : Nat) (c : NF) (i t : Nat) : tsM b c i (t + 1) = if grM b (filM c i (t + 1)) 10 < (tsM b c i t).2 then (some (t + 1), grM b (filM c i (t + 1)) 10) else tsM b c i t := by rw [tsM]
theorem tsM_le (b : Nat) (c : NF) (i : Nat) : ∀ t, (tsM b c i t).2 ≤ 7
  | 0 => Nat.le_refl 7
  | t + 1 => by
    have := tsM_le b c i t
    rw [tsM]
    split
    · exact Nat.le_trans (grM_le _ _ _) (by omega)
    · exact this
def S_kinds (σ : SG) (x r : Int32) : Int32 × SG := match sref σ x r with
  | some p => p
  | none => match sR σ r.toNatClampNeg with
    | some (n, f) => (nI (fitM 19 (nowM σ) x.toNatClampNeg n f 6), σ)
    | none => (0, σ)
def S_marks (σ : SG) (x r : Int32) : Int32 × SG := match sref σ x r with
  | some p => p
  | none => match sR σ r.toNatClampNeg with
    | some (n, f) => (nI (fitM 26 (nowM σ) x.toNatClampNeg n f 10), σ)
    | none => (0, σ)
def S_test (σ : SG) (x r : Int32) : Int32 × SG := match sref σ x r with
  | some p => p
  | none => match sR σ r.toNatClampNeg with
    | some (n, f) => if fitM 19 (nowM σ) x.toNatClampNeg n f 6 = 0 then (-9, σ) else (kdR (tsM (fitM 19 (nowM σ) x.toNatClampNeg n f 6) (nowM σ) x.toNatClampNeg 20).1, gA σ (nI (tsM (fitM 19 (nowM σ) x.toNatClampNeg n f 6) (nowM σ) x.toNatClampNeg 20).2))
    | none => (0, σ)
theorem sref_none {σ : SG} {x r : Int32} (h : sref σ x r = none) (h7 : nowM σ 18 ≤ 7) : ∃ i j n f, x = nI i ∧ i < nowM σ 18 ∧ r = nI j ∧ j < 6 ∧ sR σ j = some (n, f) ∧ 0 < n ∧ n ≤ 20 ∧ withM n f (nI 9) = true := by
  unfold sref at h
  split at h
  · rename_i i j e1 e2
    obtain ⟨q1, q2⟩ := ixV_some (by omega) e1
    obtain ⟨q3, q4⟩ := ixV_some (by omega) e2
    split at h
    · cases h
    · rename_i n f e3
      split at h
      · cases h
      · split at h
        · exact ⟨i, j, n, f, q1, q2, q3, q4, e3, by omega, by omega, by assumption⟩
        · cases h
  · cases h
section F6
variable {X : Nat × (Nat → Int32)} {d : Nat} {μ : am_M} {σ : SG} {r x y z w : Int32} {i j n : Nat} {f : Nat → Int32}
theorem l_would {k1 k2 : Value} (hi : i < 7) (hj : j < 6) (h20 : n ≤ 20) : ∀ (m t : Nat) (c : NF) (μ : am_M), t + m = n → wfc c → i < c 18 → BR μ 15 c → XR 40 μ (73 + 2 * j) (some (n, f)) → tw X (d + 3) kX7_wouldHaveShown (qi (fun v μ' => sP scr μ μ' ∧ v = nI (bN (shM i f m t c)))) 34 [.ref 2, .int (nI i), k1, k2, .ref (73 + 2 * j), .int (nI t)] [] μ
  | m, t, c, μ, htm, hw, hic, hr, hX => by
    obtain ⟨⟨i0, i1⟩, s0, s1⟩ := isR_r hj
    have x1 := hX.1
    have x2 := hX.2.1
    refine tr_iload dX7_wouldHaveShown_34 rfl ?_
    refine tr_aload dX7_wouldHaveShown_36 rfl ?_
    refine tr_getI dX7_wouldHaveShown_38 fg_RX7_109 (by first | assumption | decide) (by first | assumption | rfl) rfl (by first | assumption | rfl) ?_
    -- at 41: .if_icmp .ge 38
    refine tr_geN (tgt := 79) dX7_wouldHaveShown_41 (by decide) (by omega) (by omega) (fun h1 => ?_) (fun h1 => ?_)
    · obtain rfl : m = 0 := by omega
      refine tr_iconst (v := nI 1) dX7_wouldHaveShown_79 (by decide) ?_
      -- at 80: .ireturn
      refine tr_iret dX7_wouldHaveShown_80 (by first | exact trivial | rfl) ⟨sP.rf _ μ, rfl⟩
    · obtain ⟨m', rfl⟩ : ∃ m', m = m' + 1 := ⟨m - 1, by omega⟩
      refine tr_aload_n dX7_wouldHaveShown_44 rfl ?_
      refine tr_getR dX7_wouldHaveShown_45 fg_RX7_31 (by first | assumption | decide) (by first | assumption | rfl) rfl (by omega) ?_
      -- at 48: .invokevirtual 224
      refine tr_Vv (As := []) dX7_wouldHaveShown_48 fm_RX7_224 rfl rfl (by first | assumption | decide) (by first | assumption | rfl) (Nat.le_of_ble_eq_true rfl) (c_step (d := d) isB_15 hr hw) (fun μ1 ⟨e1, e2⟩ => ?_)
      have hs1 := sP.of (P := scr) e1 (fun b hb => by simp at hb; unfold scr; omega)
      have hX1 : XR 40 μ1 (73 + 2 * j) (some (n, f)) := hX.kept (hs1 _ (by unfold scr; omega)).1 (hs1 _ (by unfold scr; omega)).1
      have e18 : goC c 18 = c 18 := goC_keep hw (by omega) (by omega) (by omega)
      obtain ⟨q1, q2, q3, q4⟩ := e2.2.2.2.2.2 i (by omega)
      have x3 := hX1.2.2 t h1
      refine tr_aload_n dX7_wouldHaveShown_51 rfl ?_
      refine tr_getR dX7_wouldHaveShown_52 fg_RX7_31 (by first | assumption | decide) (by first | assumption | rfl) rfl (by omega) ?_
      refine tr_getR dX7_wouldHaveShown_55 fg_RX7_170 (by first | assumption | decide) (by first | assumption | rfl) rfl (by omega) ?_
      refine tr_iload_n dX7_wouldHaveShown_58 rfl ?_
      refine tr_iald dX7_wouldHaveShown_59 (by first | assumption | decide) (by first | assumption | rfl) rfl (by omega) (by omega) (by first | assumption | rfl) ?_
      refine tr_aload dX7_wouldHaveShown_60 rfl ?_
      refine tr_getR dX7_wouldHaveShown_62 fg_RX7_100 (by first | assumption | decide) (by first | assumption | rfl) rfl (by omega) ?_
      refine tr_iload dX7_wouldHaveShown_65 rfl ?_
      refine tr_iald dX7_wouldHaveShown_67 (by first | assumption | decide) (by first | assumption | rfl) rfl (by omega) (by omega) (by first | assumption | rfl) ?_
      -- at 68: .if_icmp .eq 5
      refine tr_icmp_eq (tgt := 73) dX7_wouldHaveShown_68 (by decide) (fun h2 => ?_) (fun h2 => ?_)
      · have e : shM i f (m' + 1) t c = shM i f m' (t + 1) (goC c) := by rw [shM, if_pos h2]
        rw [e]
        first | with_reducible refine tr_iincN_5 dX7_wouldHaveShown_73 (by decide) rfl ?_ | refine tr_iinc_5 dX7_wouldHaveShown_73 (by decide) rfl ?_
        refine tr_goto (tgt := 34) dX7_wouldHaveShown_76 (by decide) ?_
        -- at 34: .iload 5
        exact tw_mono (l_would hi hj h20 m' (t + 1) (goC c) μ1 (by omega) (goC_wf hw) (by omega) e2 hX1) (fun r μ' ⟨v, q1, q2, q3⟩ => ⟨v, q1, hs1.trans q2, q3⟩)
      · have e : shM i f (m' + 1) t c = false := by rw [shM, if_neg h2]
        rw [e]
        refine tr_iconst (v := nI 0) dX7_wouldHaveShown_71 (by decide) ?_
        -- at 72: .ireturn
        refine tr_iret dX7_wouldHaveShown_72 (by first | exact trivial | rfl) ⟨hs1, rfl⟩
  termination_by m => m
theorem c_would {kd mk : Nat} (h : CI μ σ) (hW : WI σ) (hi : i < nowM σ 18) (hj : j < 6) (ho : sR σ j = some (n, f)) (h20 : n ≤ 20) (hk : kd < 6) (hm : mk < 10) : cp X (d + 4) kX7_wouldHaveShown [.ref 2, .int (nI i), .int (nI kd), .int (nI mk), .ref (73 + 2 * j)] μ (qi (fun v μ' => sP scr μ μ' ∧ v = nI (bN (shM i f n 0 (nu (nu (nowM σ) (19 + i) kd) (26 + i) mk))))) := by
  have hw := hW.now
  have hw1 := hw.1
  have hX := h.1 j hj
  rw [ho] at hX
  refine cp_of ok_X7_wouldHaveShown (L := [.ref 2, .int (nI i), .int (nI kd), .int (nI mk), .ref (73 + 2 * j), .float 0]) rfl ?_
  refine tr_aload_n dX7_wouldHaveShown_0 rfl ?_
  refine tr_getR dX7_wouldHaveShown_1 fg_RX7_31 (by first | assumption | decide) (by first | assumption | rfl) rfl (by omega) ?_
  refine tr_aload_n dX7_wouldHaveShown_4 rfl ?_
  refine tr_getR dX7_wouldHaveShown_5 fg_RX7_28 (by first | assumption | decide) (by first | assumption | rfl) rfl (by omega) ?_
  -- at 8: .invokevirtual 142
  refine tr_Vv (As := [_]) dX7_wouldHaveShown_8 fm_RX7_142 rfl rfl (by first | assumption | decide) (by first | assumption | rfl) (Nat.le_of_ble_eq_true rfl) (c_become (d := d + 2) isB_15 isB_10 (by omega) h.2.2.2.1 hw) (fun μ1 ⟨e1, e2⟩ => ?_)
  have hs := sP.of (P := scr) e1 (fun b hb => by simp at hb; unfold scr; omega)
  refine tr_aload_n dX7_wouldHaveShown_11 rfl ?_
  refine tr_getR dX7_wouldHaveShown_12 fg_RX7_31 (by first | assumption | decide) (by first | assumption | rfl) rfl (by omega) ?_
  refine tr_getR dX7_wouldHaveShown_15 fg_RX7_158 (by first | assumption | decide) (by first | assumption | rfl) rfl (by omega) ?_
  refine tr_iload_n dX7_wouldHaveShown_18 rfl ?_
  refine tr_iload_n dX7_wouldHaveShown_19 rfl ?_
  refine tr_iast dX7_wouldHaveShown_20 (by first | assumption | decide) (by first | assumption | rfl) rfl (by omega) (by omega) ?_
  -- at 21: .aload_n 0
  have hs1 := hs.put (a := 16) (upd (μ1.1 16) i (nI kd)) (by unfold scr; omega)
  have hr1 : BR (sI μ1 16 (upd (μ1.1 16) i (nI kd))) 15 (nu (nowM σ) (19 + i) kd) := e2.setKind (by omega) hw1
  generalize sI μ1 16 (upd (μ1.1 16) i (nI kd)) = μ2 at hs1 hr1 ⊢
  refine tr_aload_n dX7_wouldHaveShown_21 rfl ?_
  refine tr_getR dX7_wouldHaveShown_22 fg_RX7_31 (by first | assumption | decide) (by first | assumption | rfl) rfl (by omega) ?_
  refine tr_getR dX7_wouldHaveShown_25 fg_RX7_322 (by first | assumption | decide) (by first | assumption | rfl) rfl (by omega) ?_
  refine tr_iload_n dX7_wouldHaveShown_28 rfl ?_
  refine tr_iload_n dX7_wouldHaveShown_29 rfl ?_
  refine tr_iast dX7_wouldHaveShown_30 (by first | assumption | decide) (by first | assumption | rfl) rfl (by omega) (by omega) ?_
  -- at 31: .iconst 0
  have hs2 := hs1.put (a := 19) (upd (μ2.1 19) i (nI mk)) (by unfold scr; omega)
  have hr2 : BR (sI μ2 19 (upd (μ2.1 19) i (nI mk))) 15 (nu (nu (nowM σ) (19 + i) kd) (26 + i) mk) := hr1.setMark (by omega) (by rw [nu_n _ _ (by omega)]; exact hw1)
  generalize sI μ2 19 (upd (μ2.1 19) i (nI mk)) = μ3 at hs2 hr2 ⊢
  have hX1 : XR 40 μ3 (73 + 2 * j) (some (n, f)) := hX.kept (hs2 _ (by unfold scr; omega)).1 (hs2 _ (by unfold scr; omega)).1
  refine tr_iconst (v := nI 0) dX7_wouldHaveShown_31 (by decide) ?_
  refine tr_istore_5 dX7_wouldHaveShown_32 (by decide) rfl ?_
  -- at 34: .iload 5
  exact tw_mono (l_would (by omega) hj h20 n 0 _ μ3 (by omega) ((hw.kind (by omega) hk).mark (by omega) hm) (by rw [nu_n _ _ (by omega), nu_n _ _ (by omega)]; exact hi) hr2 hX1) (fun r μ' ⟨v, q1, q2, q3⟩ => ⟨v, q1, hs2.trans q2, q3⟩)
theorem l_kts {m0 : am_M} (hW : WI σ) (hi : i < nowM σ 18) (hj : j < 6) (ho : sR σ j = some (n, f)) (h20 : n ≤ 20) : ∀ (m k : Nat) (μ : am_M), k + m = 6 → CI μ σ → sP scr m0 μ → tw X (d + 4) kX7_kindsThatShowed (qi (fun v μ' => sP scr m0 μ' ∧ v = nI (fitM 19 (nowM σ) i n f 6))) 5 [.ref 2, .int (nI i), .ref (73 + 2 * j), .int (nI (fitM 19 (nowM σ) i n f k)), .int (nI k)] [] μ
  | m, k, μ, hkm, h, hs => by
    have hw := hW.now
    have hw1 := hw.1
    obtain ⟨q1, q2, q3, q4⟩ := h.2.2.2.1.2.2.2.2.2 i hi
    obtain ⟨w1, w2, w3, w4⟩ := hw.2.2.2 i (by omega)
    have hlt := fitM_lt 19 (nowM σ) i n f k
    refine tr_iload dX7_kindsThatShowed_5 rfl ?_
    refine tr_bipush (v := nI 6) dX7_kindsThatShowed_7 (by decide) ?_
    -- at 9: .if_icmp .ge 36
    refine tr_geN (tgt := 45) dX7_kindsThatShowed_9 (by decide) (by omega) (by omega) (fun h1 => ?_) (fun h1 => ?_)
    · obtain rfl : k = 6 := by omega
      refine tr_iload_n dX7_kindsThatShowed_45 rfl ?_
      -- at 46: .ireturn
      refine tr_iret dX7_kindsThatShowed_46 (by first | exact trivial | rfl) ⟨hs, rfl⟩
    · refine tr_aload_n dX7_kindsThatShowed_12 rfl ?_
      refine tr_iload_n dX7_kindsThatShowed_13 rfl ?_
      refine tr_iload dX7_kindsThatShowed_14 rfl ?_
      refine tr_aload_n dX7_kindsThatShowed_16 rfl ?_
      refine tr_getR dX7_kindsThatShowed_17 fg_RX7_28 (by first | assumption | decide) (by first | assumption | rfl) rfl (by omega) ?_
      refine tr_getR dX7_kindsThatShowed_20 fg_RX7_322 (by first | assumption | decide) (by first | assumption | rfl) rfl (by omega) ?_
      refine tr_iload_n dX7_kindsThatShowed_23 rfl ?_
      refine tr_iald dX7_kindsThatShowed_24 (by first | assumption | decide) (by first | assumption | rfl) rfl (by omega) (by omega) (by first | assumption | rfl) ?_
      refine tr_aload_n dX7_kindsThatShowed_25 rfl ?_
      -- at 26: .invokevirtual 256
      refine tr_Vi (As := [_, _, _, _]) dX7_kindsThatShowed_26 fm_RX7_256 rfl rfl (by first | assumption | decide) (by first | assumption | rfl) (Nat.le_of_ble_eq_true rfl) (c_would (d := d) h hW hi hj ho h20 (kd := k) (by omega) w4) (fun v μ1 ⟨e1, e2⟩ => ?_)
      subst v
      have hc1 := h.scr e1
      have hs1 := hs.trans e1
      have en : nu (nu (nowM σ) (19 + i) k) (26 + i) (nowM σ (26 + i)) = nu (nowM σ) (19 + i) k := by
        have := nu_id (nu (nowM σ) (19 + i) k) (26 + i)
        rw [nu_n _ _ (by omega)] at this
        exact this
      rw [en]
      refine tr_ifb0 (tgt := 39) dX7_kindsThatShowed_29 (by decide) (fun h2 => ?_) (fun h2 => ?_)
      · have e : fitM 19 (nowM σ) i n f (k + 1) = fitM 19 (nowM σ) i n f k := by rw [fitM, if_neg (by rw [h2]; decide)]; rfl
        first | with_reducible refine tr_iincN_4 dX7_kindsThatShowed_39 (by decide) rfl ?_ | refine tr_iinc_4 dX7_kindsThatShowed_39 (by decide) rfl ?_
        refine tr_goto (tgt := 5) dX7_kindsThatShowed_42 (by decide) ?_
        -- at 5: .iload 4
        rw [← e]
        exact l_kts hW hi hj ho h20 (m - 1) (k + 1) μ1 (by omega) hc1 hs1
      · have e : fitM 19 (nowM σ) i n f (k + 1) = fitM 19 (nowM σ) i n f k + 2 ^ k := by rw [fitM, if_pos h2]
        refine tr_iload_n dX7_kindsThatShowed_32 rfl ?_
        refine tr_iconst (v := nI 1) dX7_kindsThatShowed_33 (by decide) ?_
        refine tr_iload dX7_kindsThatShowed_34 rfl ?_
        refine tr_ishl dX7_kindsThatShowed_36 ?_
        refine tr_ior dX7_kindsThatShowed_37 ?_
        -- at 38: .istore_n 3
        refine tr_v (or_bit10b _ (by omega) _ hlt) ?_
        rw [← e]
        refine tr_istore_n_3 dX7_kindsThatShowed_38 (by decide) rfl ?_
        first | with_reducible refine tr_iincN_4 dX7_kindsThatShowed_39 (by decide) rfl ?_ | refine tr_iinc_4 dX7_kindsThatShowed_39 (by decide) rfl ?_
        refine tr_goto (tgt := 5) dX7_kindsThatShowed_42 (by decide) ?_
        -- at 5: .iload 4
        exact l_kts hW hi hj ho h20 (m - 1) (k + 1) μ1 (by omega) hc1 hs1
  termination_by m => m
theorem c_kts (h : CI μ σ) (hW : WI σ) (hi : i < nowM σ 18) (hj : j < 6) (ho : sR σ j = some (n, f)) (h20 : n ≤ 20) : cp X (d + 5) kX7_kindsThatShowed [.ref 2, .int (nI i), .ref (73 + 2 * j)] μ (qi (fun v μ' => sP scr μ μ' ∧ v = nI (fitM 19 (nowM σ) i n f 6))) := by
  refine cp_of ok_X7_kindsThatShowed (L := [.ref 2, .int (nI i), .ref (73 + 2 * j), .float 0, .float 0]) rfl ?_
  refine tr_iconst (v := nI 0) dX7_kindsThatShowed_0 (by decide) ?_
  refine tr_istore_n_3 dX7_kindsThatShowed_1 (by decide) rfl ?_
  refine tr_iconst (v := nI 0) dX7_kindsThatShowed_2 (by decide) ?_
  refine tr_istore_4 dX7_kindsThatShowed_3 (by decide) rfl ?_
  -- at 5: .iload 4
  exact l_kts hW hi hj ho h20 6 0 μ (by omega) h (sP.rf _ μ)
theorem f_kinds (h : CI μ σ) (hW : WI σ) : cp X (d + 6) kX7_kinds [.ref 2, .int x, .int r] μ (PO μ (S_kinds σ x r)) := by
  have hw1 := hW.now.1
  refine cp_of ok_X7_kinds (L := [.ref 2, .int x, .int r, .float 0]) rfl ?_
  refine tr_aload_n dX7_kinds_0 rfl ?_
  refine tr_iload_n dX7_kinds_1 rfl ?_
  refine tr_iload_n dX7_kinds_2 rfl ?_
  -- at 3: .invokevirtual 249
  refine tr_Vi (As := [_, _]) dX7_kinds_3 fm_RX7_249 rfl rfl (by first | assumption | decide) (by first | assumption | rfl) (Nat.le_of_ble_eq_true rfl) (c_sref (d := d + 2) h hW) (fun v μ1 hm => ?_)
  cases hq : sref σ x r with
  | some p =>
    rw [hq] at hm
    obtain ⟨m1, m2, m3, m4⟩ := hm
    have e : S_kinds σ x r = p := by simp only [S_kinds, hq]
    rw [e]
    refine tr_istore_n_3 dX7_kinds_6 (by decide) rfl ?_
    refine tr_iload_n dX7_kinds_7 rfl ?_
    -- at 8: .ifCond .eq 7
    refine tr_if_eq (tgt := 15) dX7_kinds_8 (by decide) (fun h2 => ?_) (fun h2 => ?_)
    · exact absurd h2 m4
    · refine tr_iload_n dX7_kinds_11 rfl ?_
      refine tr_goto (tgt := 26) dX7_kinds_12 (by decide) ?_
      -- at 26: .ireturn
      refine tr_iret dX7_kinds_26 (by first | exact trivial | rfl) ⟨m1, m2, m3⟩
  | none =>
    rw [hq] at hm
    obtain ⟨m1, m2⟩ := hm
    subst v; subst μ1
    obtain ⟨i, j, n, f, rfl, hi, rfl, hj, ho, hn1, hn2, hwi⟩ := sref_none hq hw1
    have e : S_kinds σ (nI i) (nI j) = (nI (fitM 19 (nowM σ) i n f 6), σ) := by simp only [S_kinds, hq]; rw [nI_clamp (by omega), nI_clamp (by omega), ho]
    rw [e]
    refine tr_istore_n_3 dX7_kinds_6 (by decide) rfl ?_
    refine tr_iload_n dX7_kinds_7 rfl ?_
    -- at 8: .ifCond .eq 7
    refine tr_if_eq (tgt := 15) dX7_kinds_8 (by decide) (fun h2 => ?_) (fun h2 => ?_)
    · refine tr_aload_n dX7_kinds_15 rfl ?_
      refine tr_iload_n dX7_kinds_16 rfl ?_
      refine tr_aload_n dX7_kinds_17 rfl ?_
      refine tr_getR dX7_kinds_18 fg_RX7_11 (by first | assumption | decide) (by first | assumption | rfl) rfl (by omega) ?_
      refine tr_iload_n dX7_kinds_21 rfl ?_
      -- at 22: .aaload
      refine tr_aald dX7_kinds_22 (by first | assumption | decide) (by first | assumption | rfl) (by decide) rfl (row_at hj) (by decide) ?_
      refine tr_Vi (As := [_, _]) dX7_kinds_23 fm_RX7_252 rfl rfl (by first | assumption | decide) (by first | assumption | rfl) (Nat.le_of_ble_eq_true rfl) (c_kts (d := d) h hW hi hj ho hn2) (fun v μ1 ⟨e1, e2⟩ => ?_)
      refine tr_iret dX7_kinds_26 (by first | exact trivial | rfl) ⟨e2, h.scr e1, e1.fr (fun b hb => by unfold scr at hb; omega)⟩
    · exact absurd rfl h2
theorem l_marks {m0 : am_M} {v0 : Int32} (hW : WI σ) (hi : i < nowM σ 18) (hj : j < 6) (ho : sR σ j = some (n, f)) (h20 : n ≤ 20) : ∀ (m k : Nat) (μ : am_M), k + m = 10 → CI μ σ → sP scr m0 μ → tw X (d + 4) kX7_marks (qi (fun v μ' => sP scr m0 μ' ∧ v = nI (fitM 26 (nowM σ) i n f 10))) 19 [.ref 2, .int (nI i), .int (nI j), .int v0, .int (nI (fitM 26 (nowM σ) i n f k)), .int (nI k)] [] μ
  | m, k, μ, hkm, h, hs => by
    have hw := hW.now
    have hw1 := hw.1
    obtain ⟨q1, q2, q3, q4⟩ := h.2.2.2.1.2.2.2.2.2 i hi
    obtain ⟨w1, w2, w3, w4⟩ := hw.2.2.2 i (by omega)
    have hlt := fitM_lt 26 (nowM σ) i n f k
    refine tr_iload dX7_marks_19 rfl ?_
    refine tr_bipush (v := nI 10) dX7_marks_21 (by decide) ?_
    -- at 23: .if_icmp .ge 43
    refine tr_geN (tgt := 66) dX7_marks_23 (by decide) (by omega) (by omega) (fun h1 => ?_) (fun h1 => ?_)
    · obtain rfl : k = 10 := by omega
      refine tr_iload dX7_marks_66 rfl ?_
      -- at 68: .ireturn
      refine tr_iret dX7_marks_68 (by first | exact trivial | rfl) ⟨hs, rfl⟩
    · refine tr_aload_n dX7_marks_26 rfl ?_
      refine tr_iload_n dX7_marks_27 rfl ?_
      refine tr_aload_n dX7_marks_28 rfl ?_
      refine tr_getR dX7_marks_29 fg_RX7_28 (by first | assumption | decide) (by first | assumption | rfl) rfl (by omega) ?_
      refine tr_getR dX7_marks_32 fg_RX7_158 (by first | assumption | decide) (by first | assumption | rfl) rfl (by omega) ?_
      refine tr_iload_n dX7_marks_35 rfl ?_
      refine tr_iald dX7_marks_36 (by first | assumption | decide) (by first | assumption | rfl) rfl (by omega) (by omega) (by first | assumption | rfl) ?_
      refine tr_iload dX7_marks_37 rfl ?_
      refine tr_aload_n dX7_marks_39 rfl ?_
      refine tr_getR dX7_marks_40 fg_RX7_11 (by first | assumption | decide) (by first | assumption | rfl) rfl (by omega) ?_
      refine tr_iload_n dX7_marks_43 rfl ?_
      -- at 44: .aaload
      refine tr_aald dX7_marks_44 (by first | assumption | decide) (by first | assumption | rfl) (by decide) rfl (row_at hj) (by decide) ?_
      refine tr_Vi (As := [_, _, _, _]) dX7_marks_45 fm_RX7_256 rfl rfl (by first | assumption | decide) (by first | assumption | rfl) (Nat.le_of_ble_eq_true rfl) (c_would (d := d) h hW hi hj ho h20 (mk := k) w3 (by omega)) (fun v μ1 ⟨e1, e2⟩ => ?_)
      subst v
      have hc1 := h.scr e1
      have hs1 := hs.trans e1
      rw [nu_id (nowM σ) (19 + i)]
      refine tr_ifb0 (tgt := 60) dX7_marks_48 (by decide) (fun h2 => ?_) (fun h2 => ?_)
      · have e : fitM 26 (nowM σ) i n f (k + 1) = fitM 26 (nowM σ) i n f k := by rw [fitM, if_neg (by rw [h2]; decide)]; rfl
        first | with_reducible refine tr_iincN_5 dX7_marks_60 (by decide) rfl ?_ | refine tr_iinc_5 dX7_marks_60 (by decide) rfl ?_
        refine tr_goto (tgt := 19) dX7_marks_63 (by decide) ?_
        -- at 19: .iload 5
        rw [← e]
        exact l_marks hW hi hj ho h20 (m - 1) (k + 1) μ1 (by omega) hc1 hs1
      · have e : fitM 26 (nowM σ) i n f (k + 1) = fitM 26 (nowM σ) i n f k + 2 ^ k := by rw [fitM, if_pos h2]
        refine tr_iload dX7_marks_51 rfl ?_
        refine tr_iconst (v := nI 1) dX7_marks_53 (by decide) ?_
        refine tr_iload dX7_marks_54 rfl ?_
        refine tr_ishl dX7_marks_56 ?_
        refine tr_ior dX7_marks_57 ?_
        -- at 58: .istore 4
        refine tr_v (or_bit10b _ (by omega) _ hlt) ?_
        rw [← e]
        refine tr_istore_4 dX7_marks_58 (by decide) rfl ?_
        first | with_reducible refine tr_iincN_5 dX7_marks_60 (by decide) rfl ?_ | refine tr_iinc_5 dX7_marks_60 (by decide) rfl ?_
        refine tr_goto (tgt := 19) dX7_marks_63 (by decide) ?_
        -- at 19: .iload 5
        exact l_marks hW hi hj ho h20 (m - 1) (k + 1) μ1 (by omega) hc1 hs1
  termination_by m => m
theorem f_marks (h : CI μ σ) (hW : WI σ) : cp X (d + 6) kX7_marks [.ref 2, .int x, .int r] μ (PO μ (S_marks σ x r)) := by
  have hw1 := hW.now.1
  refine cp_of ok_X7_marks (L := [.ref 2, .int x, .int r, .float 0, .float 0, .float 0]) rfl ?_
  refine tr_aload_n dX7_marks_0 rfl ?_
  refine tr_iload_n dX7_marks_1 rfl ?_
  refine tr_iload_n dX7_marks_2 rfl ?_
  -- at 3: .invokevirtual 249
  refine tr_Vi (As := [_, _]) dX7_marks_3 fm_RX7_249 rfl rfl (by first | assumption | decide) (by first | assumption | rfl) (Nat.le_of_ble_eq_true rfl) (c_sref (d := d + 2) h hW) (fun v μ1 hm => ?_)
  cases hq : sref σ x r with
  | some p =>
    rw [hq] at hm
    obtain ⟨m1, m2, m3, m4⟩ := hm
    have e : S_marks σ x r = p := by simp only [S_marks, hq]
    rw [e]
    refine tr_istore_n_3 dX7_marks_6 (by decide) rfl ?_
    refine tr_iload_n dX7_marks_7 rfl ?_
    -- at 8: .ifCond .eq 5
    refine tr_if_eq (tgt := 13) dX7_marks_8 (by decide) (fun h2 => ?_) (fun h2 => ?_)
    · exact absurd h2 m4
    · refine tr_iload_n dX7_marks_11 rfl ?_
      -- at 12: .ireturn
      refine tr_iret dX7_marks_12 (by first | exact trivial | rfl) ⟨m1, m2, m3⟩
  | none =>
    rw [hq] at hm
    obtain ⟨m1, m2⟩ := hm
    subst v; subst μ1
    obtain ⟨i, j, n, f, rfl, hi, rfl, hj, ho, hn1, hn2, hwi⟩ := sref_none hq hw1
    have e : S_marks σ (nI i) (nI j) = (nI (fitM 26 (nowM σ) i n f 10), σ) := by simp only [S_marks, hq]; rw [nI_clamp (by omega), nI_clamp (by omega), ho]
    rw [e]
    refine tr_istore_n_3 dX7_marks_6 (by decide) rfl ?_
    refine tr_iload_n dX7_marks_7 rfl ?_
    -- at 8: .ifCond .eq 5
    refine tr_if_eq (tgt := 13) dX7_marks_8 (by decide) (fun h2 => ?_) (fun h2 => ?_)
    · refine tr_iconst (v := nI 0) dX7_marks_13 (by decide) ?_
      refine tr_istore_4 dX7_marks_14 (by decide) rfl ?_
      refine tr_iconst (v := nI 0) dX7_marks_16 (by decide) ?_
      refine tr_istore_5 dX7_marks_17 (by decide) rfl ?_
      -- at 19: .iload 5
      exact tw_mono (l_marks (d := d + 1) (m0 := μ) hW hi hj ho hn2 10 0 μ (by omega) h (sP.rf _ μ)) (fun r μ' ⟨v, q1, q2, q3⟩ => ⟨v, q1, q3, h.scr q2, q2.fr (fun b hb => by unfold scr at hb; omega)⟩)
    · exact absurd rfl h2
def LK (μ : am_M) (b : Nat) (c : NF) (i k0 : Nat) : Prop := ∀ k, k < k0 → b.testBit k = true → ∀ t, 1 ≤ t → t ≤ 20 → μ.1 (64 + k) t = nI (filM c i t k)
theorem isL_k {k : Nat} (h : k < 6) : am_in (64 + k) ∧ shp (64 + k) = (0, 21, []) := by
  have : k = 0 ∨ k = 1 ∨ k = 2 ∨ k = 3 ∨ k = 4 ∨ k = 5 := by omega
  rcases this with rfl | rfl | rfl | rfl | rfl | rfl <;> exact ⟨by decide, rfl⟩
theorem l_look1 {Q : Option Value → am_M → Prop} {b : Int32} {k : Nat} {c0 : NF} (hi : i < 7) (hk : k < 6) : ∀ (m t : Nat) (c : NF) (μ : am_M), t + m = 21 → 1 ≤ t → wfc c → i < c 18 → BR μ 15 c → c = goI (t - 1) c0 → (∀ s, 1 ≤ s → s < t → μ.1 (64 + k) s = nI (goI s c0 (4 + i))) → (∀ μ', sP (fun b => (15 ≤ b ∧ b < 20) ∨ b = 64 + k) μ μ' → (∀ s, 1 ≤ s → s ≤ 20 → μ'.1 (64 + k) s = nI (goI s c0 (4 + i))) → tw X (d + 3) kX7_lookAhead Q 78 [.ref 2, .int (nI i), .int b, .int (nI k), .int (nI 21)] [] μ') → tw X (d + 3) kX7_lookAhead Q 40 [.ref 2, .int (nI i), .int b, .int (nI k), .int (nI t)] [] μ
  | m, t, c, μ, htm, h1t, hw, hic, hr, hc, hl, hQ => by
    obtain ⟨i0, s0⟩ := isL_k hk
    refine tr_iload dX7_lookAhead_40 rfl ?_
    refine tr_bipush (v := nI 20) dX7_lookAhead_42 (by decide) ?_
    -- at 44: .if_icmp .gt 34
    refine tr_gtN (tgt := 78) dX7_lookAhead_44 (by decide) (by omega) (by omega) (fun h1 => ?_) (fun h1 => ?_)
    · obtain rfl : t = 21 := by omega
      exact hQ μ (sP.rf _ μ) (fun s s1 s2 => hl s s1 (by omega))
    · obtain ⟨t', rfl⟩ : ∃ t', t = t' + 1 := ⟨t - 1, by omega⟩
      refine tr_aload_n dX7_lookAhead_47 rfl ?_
      refine tr_getR dX7_lookAhead_48 fg_RX7_31 (by first | assumption | decide) (by first | assumption | rfl) rfl (by omega) ?_
      -- at 51: .invokevirtual 224
      refine tr_Vv (As := []) dX7_lookAhead_51 fm_RX7_224 rfl rfl (by first | assumption | decide) (by first | assumption | rfl) (Nat.le_of_ble_eq_true rfl) (c_step (d := d) isB_15 hr hw) (fun μ1 ⟨e1, e2⟩ => ?_)
      have hs1 := sP.of (P := fun b => (15 ≤ b ∧ b < 20) ∨ b = 64 + k) e1 (fun b hb => by simp at hb; omega)
      have e18 : goC c 18 = c 18 := goC_keep hw (by omega) (by omega) (by omega)
      obtain ⟨q1, q2, q3, q4⟩ := e2.2.2.2.2.2 i (by omega)
      have ec : goC c = goI (t' + 1) c0 := by rw [hc]; exact goI_s c0 t'
      have el : μ1.1 (64 + k) = μ.1 (64 + k) := e1.1 _ (by simp; omega)
      refine tr_aload_n dX7_lookAhead_54 rfl ?_
      refine tr_getR dX7_lookAhead_55 fg_RX7_61 (by first | assumption | decide) (by first | assumption | rfl) rfl (by omega) ?_
      refine tr_iload_n dX7_lookAhead_58 rfl ?_
      -- at 59: .aaload
      refine tr_aald dX7_lookAhead_59 (by first | assumption | decide) (by first | assumption | rfl) (by decide) rfl (looks_at hk) (by decide) ?_
      refine tr_iload dX7_lookAhead_60 rfl ?_
      refine tr_aload_n dX7_lookAhead_62 rfl ?_
      refine tr_getR dX7_lookAhead_63 fg_RX7_31 (by first | assumption | decide) (by first | assumption | rfl) rfl (by omega) ?_
      refine tr_getR dX7_lookAhead_66 fg_RX7_170 (by first | assumption | decide) (by first | assumption | rfl) rfl (by omega) ?_
      refine tr_iload_n dX7_lookAhead_69 rfl ?_
      refine tr_iald dX7_lookAhead_70 (by first | assumption | decide) (by first | assumption | rfl) rfl (by omega) (by omega) (by first | assumption | rfl) ?_
      refine tr_iast dX7_lookAhead_71 (by first | assumption | decide) (by first | assumption | rfl) rfl (by omega) (by omega) ?_
      -- at 72: .iinc 4 1
      have hs2 := hs1.put (a := 64 + k) (upd (μ1.1 (64 + k)) (t' + 1) (nI (goC c (4 + i)))) (Or.inr rfl)
      have hr2 : BR (sI μ1 (64 + k) (upd (μ1.1 (64 + k)) (t' + 1) (nI (goC c (4 + i))))) 15 (goC c) := e2.keep (fun b b1 b2 => sI_ne _ _ (by omega))
      have hl2 : ∀ s, 1 ≤ s → s < t' + 1 + 1 → (sI μ1 (64 + k) (upd (μ1.1 (64 + k)) (t' + 1) (nI (goC c (4 + i))))).1 (64 + k) s = nI (goI s c0 (4 + i)) := by
        intro s a1 a2
        rw [sI_same]
        by_cases e : s = t' + 1
        · subst e; rw [pk_us, ec]
        · rw [pk_un e, el]; exact hl s a1 (by omega)
      generalize sI μ1 (64 + k) (upd (μ1.1 (64 + k)) (t' + 1) (nI (goC c (4 + i)))) = μ2 at hs2 hr2 hl2 ⊢
      first | with_reducible refine tr_iincN_4 dX7_lookAhead_72 (by decide) rfl ?_ | refine tr_iinc_4 dX7_lookAhead_72 (by decide) rfl ?_
      refine tr_goto (tgt := 40) dX7_lookAhead_75 (by decide) ?_
      -- at 40: .iload 4
      exact l_look1 hi hk (m - 1) (t' + 1 + 1) (goC c) μ2 (by omega) (by omega) (goC_wf hw) (by omega) hr2 ec hl2 (fun μ' a1 a2 => hQ μ' (hs2.trans a1) a2)
  termination_by m => m
theorem l_look {m0 : am_M} {b : Nat} (hW : WI σ) (hi : i < nowM σ 18) (hb : b < 64) : ∀ (m k : Nat) (v4 : Value) (μ : am_M), k + m = 6 → CI μ σ → sP scr m0 μ → LK μ b (nowM σ) i k → tw X (d + 3) kX7_lookAhead (qv (fun μ' => sP scr m0 μ' ∧ LK μ' b (nowM σ) i 6)) 2 [.ref 2, .int (nI i), .int (nI b), .int (nI k), v4] [] μ
  | m, k, v4, μ, hkm, h, hs, hl => by
    have hw := hW.now
    have hw1 := hw.1
    refine tr_iload_n dX7_lookAhead_2 rfl ?_
    refine tr_bipush (v := nI 6) dX7_lookAhead_3 (by decide) ?_
    -- at 5: .if_icmp .ge 79
    refine tr_geN (tgt := 84) dX7_lookAhead_5 (by decide) (by omega) (by omega) (fun h1 => ?_) (fun h1 => ?_)
    · obtain rfl : k = 6 := by omega
      -- at 84: .return_
      refine tr_vret dX7_lookAhead_84 (by first | exact trivial | rfl) ⟨hs, hl⟩
    · refine tr_iload_n dX7_lookAhead_8 rfl ?_
      refine tr_iload_n dX7_lookAhead_9 rfl ?_
      refine tr_ishr dX7_lookAhead_10 ?_
      refine tr_iconst (v := nI 1) dX7_lookAhead_11 (by decide) ?_
      refine tr_iand dX7_lookAhead_12 ?_
      -- at 13: .ifCond .eq 65
      refine tr_v (jam_bit _ (by omega) k (by omega)) ?_
      refine tr_ifb0 (tgt := 78) dX7_lookAhead_13 (by decide) (fun h2 => ?_) (fun h2 => ?_)
      · first | with_reducible refine tr_iincN_3 dX7_lookAhead_78 (by decide) rfl ?_ | refine tr_iinc_3 dX7_lookAhead_78 (by decide) rfl ?_
        refine tr_goto (tgt := 2) dX7_lookAhead_81 (by decide) ?_
        -- at 2: .iload_n 3
        refine l_look hW hi hb (m - 1) (k + 1) v4 μ (by omega) h hs (fun q hq hbq => ?_)
        by_cases e : q = k
        · subst e; rw [h2] at hbq; cases hbq
        · exact hl q (by omega) hbq
      · refine tr_aload_n dX7_lookAhead_16 rfl ?_
        refine tr_getR dX7_lookAhead_17 fg_RX7_31 (by first | assumption | decide) (by first | assumption | rfl) rfl (by omega) ?_
        refine tr_aload_n dX7_lookAhead_20 rfl ?_
        refine tr_getR dX7_lookAhead_21 fg_RX7_28 (by first | assumption | decide) (by first | assumption | rfl) rfl (by omega) ?_
        -- at 24: .invokevirtual 142
        refine tr_Vv (As := [_]) dX7_lookAhead_24 fm_RX7_142 rfl rfl (by first | assumption | decide) (by first | assumption | rfl) (Nat.le_of_ble_eq_true rfl) (c_become (d := d + 2) isB_15 isB_10 (by omega) h.2.2.2.1 hw) (fun μ1 ⟨e1, e2⟩ => ?_)
        have hs1 := sP.of (P := fun b => (15 ≤ b ∧ b < 20) ∨ b = 64 + k) e1 (fun b hb => by simp at hb; omega)
        refine tr_aload_n dX7_lookAhead_27 rfl ?_
        refine tr_getR dX7_lookAhead_28 fg_RX7_31 (by first | assumption | decide) (by first | assumption | rfl) rfl (by omega) ?_
        refine tr_getR dX7_lookAhead_31 fg_RX7_158 (by first | assumption | decide) (by first | assumption | rfl) rfl (by omega) ?_
        refine tr_iload_n dX7_lookAhead_34 rfl ?_
        refine tr_iload_n dX7_lookAhead_35 rfl ?_
        refine tr_iast dX7_lookAhead_36 (by first | assumption | decide) (by first | assumption | rfl) rfl (by omega) (by omega) ?_
        -- at 37: .iconst 1
        have hs2 := hs1.put (a := 16) (upd (μ1.1 16) i (nI k)) (Or.inl (by omega))
        have hr2 : BR (sI μ1 16 (upd (μ1.1 16) i (nI k))) 15 (nu (nowM σ) (19 + i) k) := e2.setKind (by omega) hw1
        generalize sI μ1 16 (upd (μ1.1 16) i (nI k)) = μ2 at hs2 hr2 ⊢
        refine tr_iconst (v := nI 1) dX7_lookAhead_37 (by decide) ?_
        refine tr_istore_4 dX7_lookAhead_38 (by decide) rfl ?_
        -- at 40: .iload 4
        refine l_look1 (c0 := nu (nowM σ) (19 + i) k) (by omega) (by omega) 20 1 (nu (nowM σ) (19 + i) k) μ2 (by omega) (by omega) (hw.kind (by omega) (by omega)) (by rw [nu_n _ _ (by omega)]; exact hi) hr2 rfl (fun s s1 s2 => by omega) (fun μ3 a1 a2 => ?_)
        have hs3 := hs2.trans a1
        have hs4 : sP scr μ μ3 := hs3.wide (fun b hb => by unfold scr; omega)
        first | with_reducible refine tr_iincN_3 dX7_lookAhead_78 (by decide) rfl ?_ | refine tr_iinc_3 dX7_lookAhead_78 (by decide) rfl ?_
        refine tr_goto (tgt := 2) dX7_lookAhead_81 (by decide) ?_
        -- at 2: .iload_n 3
        refine l_look hW hi hb (m - 1) (k + 1) _ μ3 (by omega) (h.scr hs4) (hs.trans hs4) (fun q hq hbq t t1 t2 => ?_)
        by_cases e : q = k
        · subst e; exact a2 t t1 t2
        · rw [(hs3 (64 + q) (by omega)).1]; exact hl q (by omega) hbq t t1 t2
  termination_by m => m
theorem c_look {b : Nat} (h : CI μ σ) (hW : WI σ) (hi : i < nowM σ 18) (hb : b < 64) : cp X (d + 4) kX7_lookAhead [.ref 2, .int (nI i), .int (nI b)] μ (qv (fun μ' => sP scr μ μ' ∧ LK μ' b (nowM σ) i 6)) := by
  refine cp_of ok_X7_lookAhead (L := [.ref 2, .int (nI i), .int (nI b), .float 0, .float 0]) rfl ?_
  refine tr_iconst (v := nI 0) dX7_lookAhead_0 (by decide) ?_
  refine tr_istore_n_3 dX7_lookAhead_1 (by decide) rfl ?_
  -- at 2: .iload_n 3
  exact l_look hW hi hb 6 0 _ μ (by omega) h (sP.rf _ μ) (fun q hq => by omega)
theorem l_gp1 {Q : Option Value → am_M → Prop} {b t q g : Nat} {c : NF} (hb : b < 64) (hl : LK μ b c i 6) (ht1 : 1 ≤ t) (ht2 : t ≤ 20) (hq : q < 10) (hc : ∀ k, k < 6 → filM c i t k < 10) (hQ : tw X (d + 1) kX7_greatestPart Q 64 [.ref 2, .int (nI b), .int (nI t), .int (nI g), .int (nI q), .int (nI (cnM b (filM c i t) q 6)), .int (nI 6)] [] μ) : ∀ (m k : Nat), k + m = 6 → tw X (d + 1) kX7_greatestPart Q 18 [.ref 2, .int (nI b), .int (nI t), .int (nI g), .int (nI q), .int (nI (cnM b (filM c i t) q k)), .int (nI k)] [] μ
  | m, k, hkm => by
    have hle := cnM_le b (filM c i t) q k
    refine tr_iload dX7_greatestPart_18 rfl ?_
    refine tr_bipush (v := nI 6) dX7_greatestPart_20 (by decide) ?_
    -- at 22: .if_icmp .ge 42
    refine tr_geN (tgt := 64) dX7_greatestPart_22 (by decide) (by omega) (by omega) (fun h1 => ?_) (fun h1 => ?_)
    · obtain rfl : k = 6 := by omega
      exact hQ
    · obtain ⟨i0, s0⟩ := isL_k h1
      have hf := hc k h1
      have hrec : ∀ w, cnM b (filM c i t) q k + w = cnM b (filM c i t) q (k + 1) → tw X (d + 1) kX7_greatestPart Q 56 [.ref 2, .int (nI b), .int (nI t), .int (nI g), .int (nI q), .int (nI (cnM b (filM c i t) q k)), .int (nI k)] [.int (nI (cnM b (filM c i t) q k + w))] μ := by
        intro w hw
        rw [hw]
        refine tr_istore_5 dX7_greatestPart_56 (by decide) rfl ?_
        first | with_reducible refine tr_iincN_6 dX7_greatestPart_58 (by decide) rfl ?_ | refine tr_iinc_6 dX7_greatestPart_58 (by decide) rfl ?_
        refine tr_goto (tgt := 18) dX7_greatestPart_61 (by decide) ?_
        -- at 18: .iload 6
        exact l_gp1 hb hl ht1 ht2 hq hc hQ (m - 1) (k + 1) (by omega)
      refine tr_iload dX7_greatestPart_25 rfl ?_
      refine tr_iload_n dX7_greatestPart_27 rfl ?_
      refine tr_iload dX7_greatestPart_28 rfl ?_
      refine tr_ishr dX7_greatestPart_30 ?_
      refine tr_iconst (v := nI 1) dX7_greatestPart_31 (by decide) ?_
      refine tr_iand dX7_greatestPart_32 ?_
      -- at 33: .ifCond .eq 21
      refine tr_v (jam_bit _ (by omega) k (by omega)) ?_
      refine tr_ifb0 (tgt := 54) dX7_greatestPart_33 (by decide) (fun h2 => ?_) (fun h2 => ?_)
      · refine tr_iconst (v := nI 0) dX7_greatestPart_54 (by decide) ?_
        first | with_reducible refine tr_iaddN dX7_greatestPart_55 ?_ | refine tr_iadd dX7_greatestPart_55 ?_
        -- at 56: .istore 5
        exact hrec 0 (by rw [cnM, h2]; rfl)
      · have x3 := hl k h1 h2 t ht1 ht2
        refine tr_aload_n dX7_greatestPart_36 rfl ?_
        refine tr_getR dX7_greatestPart_37 fg_RX7_61 (by first | assumption | decide) (by first | assumption | rfl) rfl (by omega) ?_
        refine tr_iload dX7_greatestPart_40 rfl ?_
        -- at 42: .aaload
        refine tr_aald dX7_greatestPart_42 (by first | assumption | decide) (by first | assumption | rfl) (by decide) rfl (looks_at h1) (by decide) ?_
        refine tr_iload_n dX7_greatestPart_43 rfl ?_
        refine tr_iald dX7_greatestPart_44 (by first | assumption | decide) (by first | assumption | rfl) rfl (by omega) (by omega) (by first | assumption | rfl) ?_
        refine tr_iload dX7_greatestPart_45 rfl ?_
        -- at 47: .if_icmp .ne 7
        refine tr_neN (tgt := 54) dX7_greatestPart_47 (by decide) (by omega) (by omega) (fun h3 => ?_) (fun h3 => ?_)
        · refine tr_iconst (v := nI 0) dX7_greatestPart_54 (by decide) ?_
          first | with_reducible refine tr_iaddN dX7_greatestPart_55 ?_ | refine tr_iadd dX7_greatestPart_55 ?_
          -- at 56: .istore 5
          exact hrec 0 (by rw [cnM, h2]; simp [bN, h3])
        · refine tr_iconst (v := nI 1) dX7_greatestPart_50 (by decide) ?_
          refine tr_goto (tgt := 55) dX7_greatestPart_51 (by decide) ?_
          first | with_reducible refine tr_iaddN dX7_greatestPart_55 ?_ | refine tr_iadd dX7_greatestPart_55 ?_
          -- at 56: .istore 5
          exact hrec 1 (by rw [cnM, h2, h3]; simp [bN])
  termination_by m => m
theorem l_gp {b t : Nat} {c : NF} (hb : b < 64) (hl : LK μ b c i 6) (ht1 : 1 ≤ t) (ht2 : t ≤ 20) (hc : ∀ k, k < 6 → filM c i t k < 10) : ∀ (m q : Nat) (v5 v6 : Value), q + m = 10 → tw X (d + 1) kX7_greatestPart (qi (fun v μ' => μ' = μ ∧ v = nI (grM b (filM c i t) 10))) 5 [.ref 2, .int (nI b), .int (nI t), .int (nI (grM b (filM c i t) q)), .int (nI q), v5, v6] [] μ
  | m, q, v5, v6, hqm => by
    have hle := cnM_le b (filM c i t) q 6
    have hle2 := grM_le b (filM c i t) q
    refine tr_iload dX7_greatestPart_5 rfl ?_
    refine tr_bipush (v := nI 10) dX7_greatestPart_7 (by decide) ?_
    -- at 9: .if_icmp .ge 68
    refine tr_geN (tgt := 77) dX7_greatestPart_9 (by decide) (by omega) (by omega) (fun h1 => ?_) (fun h1 => ?_)
    · obtain rfl : q = 10 := by omega
      refine tr_iload_n dX7_greatestPart_77 rfl ?_
      -- at 78: .ireturn
      refine tr_iret dX7_greatestPart_78 (by first | exact trivial | rfl) ⟨rfl, rfl⟩
    · refine tr_iconst (v := nI 0) dX7_greatestPart_12 (by decide) ?_
      refine tr_istore_5 dX7_greatestPart_13 (by decide) rfl ?_
      refine tr_iconst (v := nI 0) dX7_greatestPart_15 (by decide) ?_
      refine tr_istore_6 dX7_greatestPart_16 (by decide) rfl ?_
      -- at 18: .iload 6
      refine l_gp1 hb hl ht1 ht2 h1 hc ?_ 6 0 (by omega)
      refine tr_iload_n dX7_greatestPart_64 rfl ?_
      refine tr_iload dX7_greatestPart_65 rfl ?_
      -- at 67: .invokestatic 227
      refine tr_Si (As := [_, _]) dX7_greatestPart_67 fm_RX7_227 rfl rfl (Nat.le_of_ble_eq_true rfl) (c_max (d := d) (by omega) (by omega)) (fun v μ1 ⟨e1, e2⟩ => ?_)
      subst μ1; subst v
      refine tr_istore_n_3 dX7_greatestPart_70 (by decide) rfl ?_
      first | with_reducible refine tr_iincN_4 dX7_greatestPart_71 (by decide) rfl ?_ | refine tr_iinc_4 dX7_greatestPart_71 (by decide) rfl ?_
      refine tr_goto (tgt := 5) dX7_greatestPart_74 (by decide) ?_
      -- at 5: .iload 4
      exact l_gp hb hl ht1 ht2 hc (m - 1) (q + 1) _ _ (by omega)
  termination_by m => m
theorem c_gp {b t : Nat} {c : NF} (hb : b < 64) (hl : LK μ b c i 6) (ht1 : 1 ≤ t) (ht2 : t ≤ 20) (hc : ∀ k, k < 6 → filM c i t k < 10) : cp X (d + 2) kX7_greatestPart [.ref 2, .int (nI b), .int (nI t)] μ (qi (fun v μ' => μ' = μ ∧ v = nI (grM b (filM c i t) 10))) := by
  refine cp_of ok_X7_greatestPart (L := [.ref 2, .int (nI b), .int (nI t), .float 0, .float 0, .float 0, .float 0]) rfl ?_
  refine tr_iconst (v := nI 0) dX7_greatestPart_0 (by decide) ?_
  refine tr_istore_n_3 dX7_greatestPart_1 (by decide) rfl ?_
  refine tr_iconst (v := nI 0) dX7_greatestPart_2 (by decide) ?_
  refine tr_istore_4 dX7_greatestPart_3 (by decide) rfl ?_
  -- at 5: .iload 4
  exact l_gp hb hl ht1 ht2 hc 10 0 _ _ (by omega)
theorem filM_lt {c : NF} (hw : wfc c) {t k : Nat} (hi : i < 7) (hk : k < 6) : filM c i t k < 10 := ((goI_wf t _ (hw.kind hi hk)).2.2.2 i hi).1
theorem l_test {m0 : am_M} {b : Nat} {v0 : Int32} (hW : WI σ) (hi : i < nowM σ 18) (hb : b < 64) (hl : LK μ b (nowM σ) i 6) (h : CI μ σ) (hf : fr m0 μ) {P : Int32 × SG} {N : Nat} (hN : N = 20) (hP : P.1 = kdR (tsM b (nowM σ) i N).1) (hP2 : P.2 = gA σ (nI (tsM b (nowM σ) i N).2)) : ∀ (m t : Nat) (v8 : Value), t + m = 20 → tw X (d + 2) kX7_test (PO m0 P) 52 [.ref 2, .int (nI i), .int r, .int v0, .int (nI b), .int (kdR (tsM b (nowM σ) i t).1), .int (nI (tsM b (nowM σ) i t).2), .int (nI (t + 1)), v8] [] μ
  | m, t, v8, htm => by
    have hw := hW.now
    have hw1 := hw.1
    have hle := tsM_le b (nowM σ) i t
    have hg := grM_le b (filM (nowM σ) i (t + 1)) 10
    refine tr_iload dX7_test_52 rfl ?_
    refine tr_bipush (v := nI 20) dX7_test_54 (by decide) ?_
    -- at 56: .if_icmp .gt 34
    refine tr_gtN (tgt := 90) dX7_test_56 (by decide) (by omega) (by omega) (fun h1 => ?_) (fun h1 => ?_)
    · obtain rfl : t = N := by omega
      refine tr_aload_n dX7_test_90 rfl ?_
      refine tr_iload dX7_test_91 rfl ?_
      refine tr_putI dX7_test_93 fp_RX7_103 (by first | assumption | decide) (by first | assumption | rfl) rfl ?_
      refine tr_iload dX7_test_96 rfl ?_
      -- at 98: .ireturn
      refine tr_iret dX7_test_98 (by first | exact trivial | rfl) ⟨hP.symm, by rw [hP2]; exact h.asked _, hf.trans ((((sP.rf (fun b => b = 2) μ).put _ rfl)).fr (fun b hb => by omega))⟩
    · obtain ⟨m', hm', hlt⟩ : ∃ m', m = m' + 1 ∧ m' < m := ⟨m - 1, by omega, by omega⟩
      refine tr_aload_n dX7_test_59 rfl ?_
      refine tr_iload dX7_test_60 rfl ?_
      refine tr_iload dX7_test_62 rfl ?_
      -- at 64: .invokevirtual 264
      refine tr_Vi (As := [_, _]) dX7_test_64 fm_RX7_264 rfl rfl (by first | assumption | decide) (by first | assumption | rfl) (Nat.le_of_ble_eq_true rfl) (c_gp (d := d) hb hl (by omega) (by omega) (fun k hk => filM_lt hw (by omega) hk)) (fun v μ1 ⟨e1, e2⟩ => ?_)
      subst μ1; subst v
      have et := tsM_s b (nowM σ) i t
      generalize grM b (filM (nowM σ) i (t + 1)) 10 = g at hg et ⊢
      refine tr_istore_8 dX7_test_67 (by decide) rfl ?_
      refine tr_iload dX7_test_69 rfl ?_
      refine tr_iload dX7_test_71 rfl ?_
      -- at 73: .if_icmp .ge 11
      refine tr_geN (tgt := 84) dX7_test_73 (by decide) (by omega) (by omega) (fun h2 => ?_) (fun h2 => ?_)
      · have e : tsM b (nowM σ) i (t + 1) = tsM b (nowM σ) i t := by rw [et, if_neg (by omega)]
        first | with_reducible refine tr_iincN_7 dX7_test_84 (by decide) rfl ?_ | refine tr_iinc_7 dX7_test_84 (by decide) rfl ?_
        refine tr_goto (tgt := 52) dX7_test_87 (by decide) ?_
        -- at 52: .iload 7
        have key := l_test (v0 := v0) hW hi hb hl h hf hN hP hP2 m' (t + 1) (.int (nI g)) (by omega)
        rw [e] at key
        exact key
      · have e : tsM b (nowM σ) i (t + 1) = (some (t + 1), g) := by rw [et, if_pos (by omega)]
        refine tr_iload dX7_test_76 rfl ?_
        refine tr_istore_6 dX7_test_78 (by decide) rfl ?_
        refine tr_iload dX7_test_80 rfl ?_
        refine tr_istore_5 dX7_test_82 (by decide) rfl ?_
        first | with_reducible refine tr_iincN_7 dX7_test_84 (by decide) rfl ?_ | refine tr_iinc_7 dX7_test_84 (by decide) rfl ?_
        refine tr_goto (tgt := 52) dX7_test_87 (by decide) ?_
        -- at 52: .iload 7
        have key := l_test (v0 := v0) hW hi hb hl h hf hN hP hP2 m' (t + 1) (.int (nI g)) (by omega)
        rw [e] at key
        exact key
  termination_by m => m
  decreasing_by all_goals exact hlt
theorem f_test (h : CI μ σ) (hW : WI σ) : cp X (d + 6) kX7_test [.ref 2, .int x, .int r] μ (PO μ (S_test σ x r)) := by
  have hw1 := hW.now.1
  refine cp_of ok_X7_test (L := [.ref 2, .int x, .int r, .float 0, .float 0, .float 0, .float 0, .float 0, .float 0]) rfl ?_
  refine tr_aload_n dX7_test_0 rfl ?_
  refine tr_iload_n dX7_test_1 rfl ?_
  refine tr_iload_n dX7_test_2 rfl ?_
  -- at 3: .invokevirtual 249
  refine tr_Vi (As := [_, _]) dX7_test_3 fm_RX7_249 rfl rfl (by first | assumption | decide) (by first | assumption | rfl) (Nat.le_of_ble_eq_true rfl) (c_sref (d := d + 2) h hW) (fun v μ1 hm => ?_)
  cases hq : sref σ x r with
  | some p =>
    rw [hq] at hm
    obtain ⟨m1, m2, m3, m4⟩ := hm
    have e : S_test σ x r = p := by simp only [S_test, hq]
    rw [e]
    refine tr_istore_n_3 dX7_test_6 (by decide) rfl ?_
    refine tr_iload_n dX7_test_7 rfl ?_
    -- at 8: .ifCond .eq 5
    refine tr_if_eq (tgt := 13) dX7_test_8 (by decide) (fun h2 => ?_) (fun h2 => ?_)
    · exact absurd h2 m4
    · refine tr_iload_n dX7_test_11 rfl ?_
      -- at 12: .ireturn
      refine tr_iret dX7_test_12 (by first | exact trivial | rfl) ⟨m1, m2, m3⟩
  | none =>
    rw [hq] at hm
    obtain ⟨m1, m2⟩ := hm
    subst v; subst μ1
    obtain ⟨i, j, n, f, rfl, hi, rfl, hj, ho, hn1, hn2, hwi⟩ := sref_none hq hw1
    have hb := fitM_lt 19 (nowM σ) i n f 6
    have e : S_test σ (nI i) (nI j) = if fitM 19 (nowM σ) i n f 6 = 0 then (-9, σ) else (kdR (tsM (fitM 19 (nowM σ) i n f 6) (nowM σ) i 20).1, gA σ (nI (tsM (fitM 19 (nowM σ) i n f 6) (nowM σ) i 20).2)) := by simp only [S_test, hq]; rw [nI_clamp (by omega), nI_clamp (by omega), ho]
    rw [e]
    refine tr_istore_n_3 dX7_test_6 (by decide) rfl ?_
    refine tr_iload_n dX7_test_7 rfl ?_
    -- at 8: .ifCond .eq 5
    refine tr_if_eq (tgt := 13) dX7_test_8 (by decide) (fun h2 => ?_) (fun h2 => ?_)
    · refine tr_aload_n dX7_test_13 rfl ?_
      refine tr_iload_n dX7_test_14 rfl ?_
      refine tr_aload_n dX7_test_15 rfl ?_
      refine tr_getR dX7_test_16 fg_RX7_11 (by first | assumption | decide) (by first | assumption | rfl) rfl (by omega) ?_
      refine tr_iload_n dX7_test_19 rfl ?_
      -- at 20: .aaload
      refine tr_aald dX7_test_20 (by first | assumption | decide) (by first | assumption | rfl) (by decide) rfl (row_at hj) (by decide) ?_
      refine tr_Vi (As := [_, _]) dX7_test_21 fm_RX7_252 rfl rfl (by first | assumption | decide) (by first | assumption | rfl) (Nat.le_of_ble_eq_true rfl) (c_kts (d := d) h hW hi hj ho hn2) (fun v μ1 ⟨e1, e2⟩ => ?_)
      subst v
      have hc1 := h.scr e1
      generalize fitM 19 (nowM σ) i n f 6 = b at hb ⊢
      refine tr_istore_4 dX7_test_24 (by decide) rfl ?_
      refine tr_iload dX7_test_26 rfl ?_
      -- at 28: .ifCond .ne 6
      refine tr_ifnN (tgt := 34) dX7_test_28 (by decide) (by omega) (fun h3 => ?_) (fun h3 => ?_)
      · rw [if_neg h3]
        refine tr_aload_n dX7_test_34 rfl ?_
        refine tr_iload_n dX7_test_35 rfl ?_
        refine tr_iload dX7_test_36 rfl ?_
        -- at 38: .invokevirtual 260
        refine tr_Vv (As := [_, _]) dX7_test_38 fm_RX7_260 rfl rfl (by first | assumption | decide) (by first | assumption | rfl) (Nat.le_of_ble_eq_true rfl) (c_look (d := d + 1) hc1 hW hi hb) (fun μ2 ⟨e3, e4⟩ => ?_)
        have hc2 := hc1.scr e3
        have hf2 := (e1.trans e3).fr (fun b hb => by unfold scr at hb; omega)
        refine tr_bipush (v := -9) dX7_test_41 (by decide) ?_
        refine tr_istore_5 dX7_test_43 (by decide) rfl ?_
        refine tr_bipush (v := nI 7) dX7_test_45 (by decide) ?_
        refine tr_istore_6 dX7_test_47 (by decide) rfl ?_
        refine tr_iconst (v := nI 1) dX7_test_49 (by decide) ?_
        refine tr_istore_7 dX7_test_50 (by decide) rfl ?_
        -- at 52: .iload 7
        generalize hz : tsM b (nowM σ) i 20 = z
        refine l_test (d := d + 3) (P := (kdR z.1, gA σ (nI z.2))) hW hi hb e4 hc2 hf2 (N := 20) rfl ?_ ?_ 20 0 _ (by omega)
        · rw [hz]
        · rw [hz]
      · rw [if_pos (by omega)]
        refine tr_bipush (v := -9) dX7_test_31 (by decide) ?_
        -- at 33: .ireturn
        refine tr_iret dX7_test_33 (by first | exact trivial | rfl) ⟨rfl, hc1, e1.fr (fun b hb => by unfold scr at hb; omega)⟩
    · exact absurd rfl h2
end F6
