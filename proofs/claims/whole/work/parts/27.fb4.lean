-- ===== FlapBoard: drum, mark, later, ends, passes, least =====
def dueM (c : NF) (j kd : Nat) : Nat → Nat
  | 0 => 0
  | t + 1 => dueM c j kd t + bN (letM kd (c 1 + t) (decide (c (4 + j) = c (26 + j))))
def seenM (kd g mk : Nat) : Nat → Nat × Nat
  | 0 => (0, 1)
  | k + 1 => (trnM kd (seenM kd g mk k).1 g mk, (seenM kd g mk k).2 ||| 2 ^ trnM kd (seenM kd g mk k).1 g mk)
theorem seenM_lt (kd g mk : Nat) : ∀ k, (seenM kd g mk k).1 < 10 ∧ (seenM kd g mk k).2 < 2 ^ 10
  | 0 => ⟨(by decide : 0 < 10), (by decide : 1 < 2 ^ 10)⟩
  | k + 1 => ⟨trnM_lt _ _ _ _, Nat.or_lt_two_pow (seenM_lt kd g mk k).2 (Nat.pow_lt_pow_right (by omega) (trnM_lt _ _ _ _))⟩
theorem or_bit10 : ∀ s, s < 10 → ∀ b, b < 1024 → nI b ||| (nI 1 <<< (nI s &&& 31)) = nI (b ||| 2 ^ s) := by decide +kernel
theorem ones10 : ∀ m, m < 1024 → onesM 10 m ≤ 10 := by decide +kernel
def nevM (kd g mk : Nat) : Nat := 10 - onesM 10 (seenM kd g mk 10).2
def mkM (c : NF) (j kd : Nat) : Int32 := if kd = 1 then nI (dueM c j (c (19 + j)) 8) else if kd = 2 then nI (nevM (c (19 + j)) (c (11 + j)) (c (26 + j))) else if kd = 3 then nI ((c (4 + j) + 10 - c (11 + j)) % 10) else if kd = 4 then nI (dueM c j 1 8) - nI (dueM c j 4 8) else nI ((nxM c j + 10 - c (4 + j)) % 10)
def S_mark (σ : SG) (i kd : Int32) : Int32 × SG := match ixV i (nowM σ 18), ixV kd 6 with
  | some j, some q => if q = 0 then (-1, σ) else if isM (nowM σ (19 + j)) q = true then (mkM (nowM σ) j q, σ) else (-3, gF σ 3)
  | _, _ => (-1, σ)
def S_later (σ : SG) (n : Int32) : Int32 × SG := match ixV n 61 with
  | some q => if nowM σ 18 = 0 then (-4, σ) else (nI (numM (goI q (nowM σ)) (nowM σ 18)), gA σ (nI (goI q (nowM σ) 2) - nI (nowM σ 2)))
  | none => (-1, σ)
def S_ends (σ : SG) : Int32 × SG := if nowM σ 18 = 0 then (-4, σ) else if 60 < tM 61 (nowM σ) then (-9, σ) else (nI (tM 61 (nowM σ)), gA σ (nI (goI (tM 61 (nowM σ)) (nowM σ) 2) - nI (nowM σ 2)))
def leaM (c : NF) (t : Nat) : Nat → Nat → Nat
  | 0, p => p
  | m + 1, p => if tM 61 (nu c 0 p) ≤ t then p else leaM c t m (p + 1)
def S_least (σ : SG) : Int32 × SG := if nowM σ 18 = 0 then (-4, σ) else if 60 < tM 61 (nu (nowM σ) 0 9) then (-9, σ) else (nI (leaM (nowM σ) (tM 61 (nu (nowM σ) 0 9)) 8 1), gA σ (nI (tM 61 (nu (nowM σ) 0 9))))
theorem wfc.kind {c : NF} (h : wfc c) {i v : Nat} (hi : i < 7) (hv : v < 6) : wfc (nu c (19 + i) v) := by
  obtain ⟨h1, h2, h3, h4⟩ := h
  refine ⟨by rw [nu_n _ _ (by omega)]; exact h1, by rw [nu_n _ _ (by omega)]; exact h2, ?_, fun j hj => ?_⟩
  · rw [nu_n _ _ (by omega), nu_n _ _ (by omega)]; exact h3
  obtain ⟨a1, a2, a3, a4⟩ := h4 j hj
  refine ⟨by rw [nu_n _ _ (by omega)]; exact a1, by rw [nu_n _ _ (by omega)]; exact a2, ?_, by rw [nu_n _ _ (by omega)]; exact a4⟩
  by_cases e : j = i
  · subst e; rw [nu_s]; exact hv
  · rw [nu_n _ _ (by omega)]; exact a3
theorem wfc.mark {c : NF} (h : wfc c) {i v : Nat} (hi : i < 7) (hv : v < 10) : wfc (nu c (26 + i) v) := by
  obtain ⟨h1, h2, h3, h4⟩ := h
  refine ⟨by rw [nu_n _ _ (by omega)]; exact h1, by rw [nu_n _ _ (by omega)]; exact h2, ?_, fun j hj => ?_⟩
  · rw [nu_n _ _ (by omega), nu_n _ _ (by omega)]; exact h3
  obtain ⟨a1, a2, a3, a4⟩ := h4 j hj
  refine ⟨by rw [nu_n _ _ (by omega)]; exact a1, by rw [nu_n _ _ (by omega)]; exact a2, by rw [nu_n _ _ (by omega)]; exact a3, ?_⟩
  by_cases e : j = i
  · subst e; rw [nu_s]; exact hv
  · rw [nu_n _ _ (by omega)]; exact a4
section F4
variable {X : Nat × (Nat → Int32)} {d : Nat} {μ : am_M} {σ : SG} {r x y z w : Int32} {j n : Nat} {f : Nat → Int32}
theorem c_drumFact {q : Nat} (h : CI μ σ) (hW : WI σ) (hj : j < nowM σ 18) (hq : q < 7) : cp X (d + 3) kX7_drumFact [.ref 2, .int (nI j), .int (nI q)] μ (qi (fun v μ' => μ' = μ ∧ v = nI (dfM (nowM σ) j q))) := by
  have hw := hW.now
  have hw1 := hw.1
  obtain ⟨q1, q2, q3, q4⟩ := h.2.2.2.1.2.2.2.2.2 j hj
  refine cp_of ok_X7_drumFact (L := [.ref 2, .int (nI j), .int (nI q)]) rfl ?_
  refine tr_iload_n dX7_drumFact_0 rfl ?_
  -- at 1: .tableswitch 113 0 5 #[39, 49, 59, 69, 79, 96]
  have hk : q = 0 ∨ q = 1 ∨ q = 2 ∨ q = 3 ∨ q = 4 ∨ q = 5 ∨ q = 6 := by omega
  rcases hk with rfl | rfl | rfl | rfl | rfl | rfl | rfl
  · refine tr_tableIn (off := 39) (tgt := 40) dX7_drumFact_1 (by decide) (by decide) (by decide) (by decide) ?_
    refine tr_aload_n dX7_drumFact_40 rfl ?_
    refine tr_getR dX7_drumFact_41 fg_RX7_28 (by first | assumption | decide) (by first | assumption | rfl) rfl (by omega) ?_
    refine tr_getR dX7_drumFact_44 fg_RX7_158 (by first | assumption | decide) (by first | assumption | rfl) rfl (by omega) ?_
    refine tr_iload_n dX7_drumFact_47 rfl ?_
    refine tr_iald dX7_drumFact_48 (by first | assumption | decide) (by first | assumption | rfl) rfl (by omega) (by omega) (by first | assumption | rfl) ?_
    -- at 49: .ireturn
    refine tr_iret dX7_drumFact_49 (by first | exact trivial | rfl) ⟨rfl, rfl⟩
  · refine tr_tableIn (off := 49) (tgt := 50) dX7_drumFact_1 (by decide) (by decide) (by decide) (by decide) ?_
    refine tr_aload_n dX7_drumFact_50 rfl ?_
    refine tr_getR dX7_drumFact_51 fg_RX7_28 (by first | assumption | decide) (by first | assumption | rfl) rfl (by omega) ?_
    refine tr_getR dX7_drumFact_54 fg_RX7_170 (by first | assumption | decide) (by first | assumption | rfl) rfl (by omega) ?_
    refine tr_iload_n dX7_drumFact_57 rfl ?_
    refine tr_iald dX7_drumFact_58 (by first | assumption | decide) (by first | assumption | rfl) rfl (by omega) (by omega) (by first | assumption | rfl) ?_
    -- at 59: .ireturn
    refine tr_iret dX7_drumFact_59 (by first | exact trivial | rfl) ⟨rfl, rfl⟩
  · refine tr_tableIn (off := 59) (tgt := 60) dX7_drumFact_1 (by decide) (by decide) (by decide) (by decide) ?_
    refine tr_aload_n dX7_drumFact_60 rfl ?_
    refine tr_getR dX7_drumFact_61 fg_RX7_28 (by first | assumption | decide) (by first | assumption | rfl) rfl (by omega) ?_
    refine tr_getR dX7_drumFact_64 fg_RX7_173 (by first | assumption | decide) (by first | assumption | rfl) rfl (by omega) ?_
    refine tr_iload_n dX7_drumFact_67 rfl ?_
    refine tr_iald dX7_drumFact_68 (by first | assumption | decide) (by first | assumption | rfl) rfl (by omega) (by omega) (by first | assumption | rfl) ?_
    -- at 69: .ireturn
    refine tr_iret dX7_drumFact_69 (by first | exact trivial | rfl) ⟨rfl, rfl⟩
  · refine tr_tableIn (off := 69) (tgt := 70) dX7_drumFact_1 (by decide) (by decide) (by decide) (by decide) ?_
    refine tr_aload_n dX7_drumFact_70 rfl ?_
    refine tr_getR dX7_drumFact_71 fg_RX7_28 (by first | assumption | decide) (by first | assumption | rfl) rfl (by omega) ?_
    refine tr_getR dX7_drumFact_74 fg_RX7_322 (by first | assumption | decide) (by first | assumption | rfl) rfl (by omega) ?_
    refine tr_iload_n dX7_drumFact_77 rfl ?_
    refine tr_iald dX7_drumFact_78 (by first | assumption | decide) (by first | assumption | rfl) rfl (by omega) (by omega) (by first | assumption | rfl) ?_
    -- at 79: .ireturn
    refine tr_iret dX7_drumFact_79 (by first | exact trivial | rfl) ⟨rfl, rfl⟩
  · refine tr_tableIn (off := 79) (tgt := 80) dX7_drumFact_1 (by decide) (by decide) (by decide) (by decide) ?_
    refine tr_aload_n dX7_drumFact_80 rfl ?_
    refine tr_getR dX7_drumFact_81 fg_RX7_28 (by first | assumption | decide) (by first | assumption | rfl) rfl (by omega) ?_
    refine tr_iload_n dX7_drumFact_84 rfl ?_
    -- at 85: .invokevirtual 325
    refine tr_Vi (As := [_]) dX7_drumFact_85 fm_RX7_325 rfl rfl (by first | assumption | decide) (by first | assumption | rfl) (Nat.le_of_ble_eq_true rfl) (c_isJammed (d := d + 1) isB_10 h.2.2.2.1 hw hj) (fun v μ1 ⟨e1, e2⟩ => ?_)
    subst μ1; subst v
    refine tr_ifb0 (tgt := 95) dX7_drumFact_88 (by decide) (fun h1 => ?_) (fun h1 => ?_)
    · refine tr_iconst (v := nI 0) dX7_drumFact_95 (by decide) ?_
      -- at 96: .ireturn
      refine tr_iret dX7_drumFact_96 (by first | exact trivial | rfl) ⟨rfl, by show nI 0 = nI (bN (jmM (nowM σ) j)); rw [h1]; rfl⟩
    · refine tr_iconst (v := nI 1) dX7_drumFact_91 (by decide) ?_
      refine tr_goto (tgt := 96) dX7_drumFact_92 (by decide) ?_
      -- at 96: .ireturn
      refine tr_iret dX7_drumFact_96 (by first | exact trivial | rfl) ⟨rfl, by show nI 1 = nI (bN (jmM (nowM σ) j)); rw [h1]; rfl⟩
  · refine tr_tableIn (off := 96) (tgt := 97) dX7_drumFact_1 (by decide) (by decide) (by decide) (by decide) ?_
    refine tr_aload_n dX7_drumFact_97 rfl ?_
    refine tr_getR dX7_drumFact_98 fg_RX7_28 (by first | assumption | decide) (by first | assumption | rfl) rfl (by omega) ?_
    refine tr_iload_n dX7_drumFact_101 rfl ?_
    -- at 102: .invokevirtual 328
    refine tr_Vi (As := [_]) dX7_drumFact_102 fm_RX7_328 rfl rfl (by first | assumption | decide) (by first | assumption | rfl) (Nat.le_of_ble_eq_true rfl) (c_isReady (d := d) isB_10 h.2.2.2.1 hw hj) (fun v μ1 ⟨e1, e2⟩ => ?_)
    subst μ1; subst v
    refine tr_ifb0 (tgt := 112) dX7_drumFact_105 (by decide) (fun h1 => ?_) (fun h1 => ?_)
    · refine tr_iconst (v := nI 0) dX7_drumFact_112 (by decide) ?_
      -- at 113: .ireturn
      refine tr_iret dX7_drumFact_113 (by first | exact trivial | rfl) ⟨rfl, by show nI 0 = nI (bN (rdyM (nowM σ) j)); rw [h1]; rfl⟩
    · refine tr_iconst (v := nI 1) dX7_drumFact_108 (by decide) ?_
      refine tr_goto (tgt := 113) dX7_drumFact_109 (by decide) ?_
      -- at 113: .ireturn
      refine tr_iret dX7_drumFact_113 (by first | exact trivial | rfl) ⟨rfl, by show nI 1 = nI (bN (rdyM (nowM σ) j)); rw [h1]; rfl⟩
  · refine tr_tableOut (tgt := 114) dX7_drumFact_1 (by decide) (by decide) ?_
    refine tr_aload_n dX7_drumFact_114 rfl ?_
    refine tr_getR dX7_drumFact_115 fg_RX7_28 (by first | assumption | decide) (by first | assumption | rfl) rfl (by omega) ?_
    refine tr_iload_n dX7_drumFact_118 rfl ?_
    -- at 119: .invokevirtual 181
    refine tr_Vi (As := [_]) dX7_drumFact_119 fm_RX7_181 rfl rfl (by first | assumption | decide) (by first | assumption | rfl) (Nat.le_of_ble_eq_true rfl) (c_afterTurn (d := d) isB_10 h.2.2.2.1 hw hj) (fun v μ1 ⟨e1, e2⟩ => ?_)
    subst μ1; subst v
    refine tr_iret dX7_drumFact_122 (by first | exact trivial | rfl) ⟨rfl, rfl⟩
theorem f_drum (h : CI μ σ) (hW : WI σ) : cp X (d + 4) kX7_drum [.ref 2, .int r, .int x] μ (PO μ (S_drum σ r x)) := by
  have hw1 := hW.now.1
  refine cp_of ok_X7_drum (L := [.ref 2, .int r, .int x]) rfl ?_
  refine tr_aload_n dX7_drum_0 rfl ?_
  refine tr_iload_n dX7_drum_1 rfl ?_
  -- at 2: .invokevirtual 152
  refine tr_Vi (As := [_]) dX7_drum_2 fm_RX7_152 rfl rfl (by first | assumption | decide) (by first | assumption | rfl) (Nat.le_of_ble_eq_true rfl) (c_isDrum (d := d + 2) h) (fun v μ1 ⟨e1, e2⟩ => ?_)
  subst μ1; subst v
  cases hr : ixV r (nowM σ 18) with
  | none =>
    refine tr_ifb0 (tgt := 18) dX7_drum_5 (by decide) (fun h1 => ?_) (fun h1 => ?_)
    · refine tr_iconst (v := -1) dX7_drum_18 (by decide) ?_
      -- at 19: .ireturn
      refine tr_iret dX7_drum_19 (by first | exact trivial | rfl) (po_same h (by simp only [S_drum, hr]))
    · cases h1
  | some j =>
    obtain ⟨rfl, hj⟩ := ixV_some (by omega) hr
    refine tr_ifb0 (tgt := 18) dX7_drum_5 (by decide) (fun h1 => ?_) (fun h1 => ?_)
    · cases h1
    · cases hx : ixV x 7 with
      | none =>
        refine tr_iload_n dX7_drum_8 rfl ?_
        -- at 9: .ifCond .lt 9
        refine tr_if_lt (tgt := 18) dX7_drum_9 (by decide) (fun h2 => ?_) (fun h2 => ?_)
        · refine tr_iconst (v := -1) dX7_drum_18 (by decide) ?_
          -- at 19: .ireturn
          refine tr_iret dX7_drum_19 (by first | exact trivial | rfl) (po_same h (by simp only [S_drum, hr, hx]))
        · refine tr_iload_n dX7_drum_12 rfl ?_
          refine tr_bipush (v := nI 7) dX7_drum_13 (by decide) ?_
          -- at 15: .if_icmp .lt 5
          refine tr_icmp_lt (tgt := 20) dX7_drum_15 (by decide) (fun h3 => ?_) (fun h3 => ?_)
          · exact absurd ⟨Int32.not_lt.mp h2, h3⟩ (ixV_none hx)
          · refine tr_iconst (v := -1) dX7_drum_18 (by decide) ?_
            -- at 19: .ireturn
            refine tr_iret dX7_drum_19 (by first | exact trivial | rfl) (po_same h (by simp only [S_drum, hr, hx]))
      | some q =>
        obtain ⟨rfl, hq⟩ := ixV_some (by omega) hx
        have e : S_drum σ (nI j) (nI q) = (1, gA σ (nI (dfM (nowM σ) j q))) := by simp only [S_drum, hr, hx]
        rw [e]
        refine tr_iload_n dX7_drum_8 rfl ?_
        -- at 9: .ifCond .lt 9
        refine tr_if_lt (tgt := 18) dX7_drum_9 (by decide) (fun h2 => ?_) (fun h2 => ?_)
        · exact absurd h2 (nI_pos (by omega))
        · refine tr_iload_n dX7_drum_12 rfl ?_
          refine tr_bipush (v := nI 7) dX7_drum_13 (by decide) ?_
          -- at 15: .if_icmp .lt 5
          refine tr_ltN (tgt := 20) dX7_drum_15 (by decide) (by omega) (by omega) (fun h3 => ?_) (fun h3 => ?_)
          · refine tr_aload_n dX7_drum_20 rfl ?_
            refine tr_aload_n dX7_drum_21 rfl ?_
            refine tr_iload_n dX7_drum_22 rfl ?_
            refine tr_iload_n dX7_drum_23 rfl ?_
            -- at 24: .invokevirtual 155
            refine tr_Vi (As := [_, _]) dX7_drum_24 fm_RX7_155 rfl rfl (by first | assumption | decide) (by first | assumption | rfl) (Nat.le_of_ble_eq_true rfl) (c_drumFact (d := d) h hW hj hq) (fun v μ1 ⟨e1, e2⟩ => ?_)
            subst μ1; subst v
            refine tr_putI dX7_drum_27 fp_RX7_103 (by first | assumption | decide) (by first | assumption | rfl) rfl ?_
            refine tr_iconst (v := nI 1) dX7_drum_30 (by decide) ?_
            -- at 31: .ireturn
            refine tr_iret dX7_drum_31 (by first | exact trivial | rfl) ⟨rfl, h.asked _, (((sP.rf (fun b => b = 2) μ).put _ rfl)).fr (fun b hb => by omega)⟩
          · omega
theorem l_due {c0 : NF} {kd : Nat} (hj : j < c0 18) : ∀ (m t : Nat) (c : NF) (μ : am_M), t + m = 8 → wfc c → BR μ 15 c → c 18 = c0 18 → c (4 + j) = c0 (4 + j) → c (26 + j) = c0 (26 + j) → c (19 + j) = kd → c 1 = c0 1 + t → tw X (d + 1) kX7_dueTicks (qi (fun v μ' => sP scr μ μ' ∧ v = nI (dueM c0 j kd 8))) 26 [.ref 2, .int (nI j), .int (nI kd), .int (nI (dueM c0 j kd t)), .int (nI t)] [] μ
  | m, t, c, μ, htm, hw, hr, e18, e4, e26, e19, e1 => by
    refine tr_iload dX7_dueTicks_26 rfl ?_
    refine tr_bipush (v := nI 8) dX7_dueTicks_28 (by decide) ?_
    -- at 30: .if_icmp .ge 41
    refine tr_geN (tgt := 71) dX7_dueTicks_30 (by decide) (by omega) (by omega) (fun h1 => ?_) (fun h1 => ?_)
    · obtain rfl : t = 8 := by omega
      refine tr_iload_n dX7_dueTicks_71 rfl ?_
      -- at 72: .ireturn
      refine tr_iret dX7_dueTicks_72 (by first | exact trivial | rfl) ⟨sP.rf _ μ, rfl⟩
    · refine tr_iload_n dX7_dueTicks_33 rfl ?_
      refine tr_aload_n dX7_dueTicks_34 rfl ?_
      refine tr_getR dX7_dueTicks_35 fg_RX7_31 (by first | assumption | decide) (by first | assumption | rfl) rfl (by omega) ?_
      refine tr_iload_n dX7_dueTicks_38 rfl ?_
      -- at 39: .invokevirtual 346
      refine tr_Vi (As := [_]) dX7_dueTicks_39 fm_RX7_346 rfl rfl (by first | assumption | decide) (by first | assumption | rfl) (Nat.le_of_ble_eq_true rfl) (c_isDue (d := d) isB_15 hr hw (by omega)) (fun v μ1 ⟨g1, g2⟩ => ?_)
      subst μ1; subst v
      have r6 := hr.2.2.1
      have ed : letM (c (19 + j)) (c 1) (decide (c (4 + j) = c (26 + j))) = letM kd (c0 1 + t) (decide (c0 (4 + j) = c0 (26 + j))) := by rw [e19, e1, e4, e26]
      rw [ed]
      have hrec : tw X (d + 1) kX7_dueTicks (qi (fun v μ' => sP scr μ μ' ∧ v = nI (dueM c0 j kd 8))) 51 [.ref 2, .int (nI j), .int (nI kd), .int (nI (dueM c0 j kd t)), .int (nI t)] [.int (nI (dueM c0 j kd (t + 1)))] μ := by
        refine tr_istore_n_3 dX7_dueTicks_51 (by decide) rfl ?_
        refine tr_aload_n dX7_dueTicks_52 rfl ?_
        refine tr_getR dX7_dueTicks_53 fg_RX7_31 (by first | assumption | decide) (by first | assumption | rfl) rfl (by omega) ?_
        refine tr_dup dX7_dueTicks_56 rfl ?_
        refine tr_getI dX7_dueTicks_57 fg_RX7_184 (by first | assumption | decide) (by first | assumption | rfl) rfl (by first | assumption | rfl) ?_
        refine tr_iconst (v := nI 1) dX7_dueTicks_60 (by decide) ?_
        first | with_reducible refine tr_iaddN dX7_dueTicks_61 ?_ | refine tr_iadd dX7_dueTicks_61 ?_
        refine tr_putI dX7_dueTicks_62 fp_RX7_184 (by first | assumption | decide) (by first | assumption | rfl) rfl ?_
        -- at 65: .iinc 4 1
        have hs := (sP.rf scr μ).put (a := 15) (upd (μ.1 15) 6 (nI (c 1 + 1))) (by unfold scr; omega)
        have hr1 := hr.setF6 (v := c 1 + 1)
        generalize sI μ 15 (upd (μ.1 15) 6 (nI (c 1 + 1))) = μ1 at hs hr1 ⊢
        first | with_reducible refine tr_iincN_4 dX7_dueTicks_65 (by decide) rfl ?_ | refine tr_iinc_4 dX7_dueTicks_65 (by decide) rfl ?_
        refine tr_goto (tgt := 26) dX7_dueTicks_68 (by decide) ?_
        -- at 26: .iload 4
        exact tw_mono (l_due hj (m - 1) (t + 1) (nu c 1 (c 1 + 1)) μ1 (by omega) (hw.nu1 _) hr1 (by rw [nu_n _ _ (by omega)]; exact e18) (by rw [nu_n _ _ (by omega)]; exact e4) (by rw [nu_n _ _ (by omega)]; exact e26) (by rw [nu_n _ _ (by omega)]; exact e19) (by rw [nu_s]; omega)) (fun r μ' ⟨v, q1, q2, q3⟩ => ⟨v, q1, hs.trans q2, q3⟩)
      refine tr_ifb0 (tgt := 49) dX7_dueTicks_42 (by decide) (fun h2 => ?_) (fun h2 => ?_)
      · refine tr_iconst (v := nI 0) dX7_dueTicks_49 (by decide) ?_
        first | with_reducible refine tr_iaddN dX7_dueTicks_50 ?_ | refine tr_iadd dX7_dueTicks_50 ?_
        -- at 51: .istore_n 3
        rw [show dueM c0 j kd t + 0 = dueM c0 j kd (t + 1) by rw [dueM, h2]; rfl]
        exact hrec
      · refine tr_iconst (v := nI 1) dX7_dueTicks_45 (by decide) ?_
        refine tr_goto (tgt := 50) dX7_dueTicks_46 (by decide) ?_
        first | with_reducible refine tr_iaddN dX7_dueTicks_50 ?_ | refine tr_iadd dX7_dueTicks_50 ?_
        -- at 51: .istore_n 3
        rw [show dueM c0 j kd t + 1 = dueM c0 j kd (t + 1) by rw [dueM, h2]; rfl]
        exact hrec
  termination_by m => m
theorem c_due {kd : Nat} (h : CI μ σ) (hW : WI σ) (hj : j < nowM σ 18) (hk : kd < 6) : cp X (d + 2) kX7_dueTicks [.ref 2, .int (nI j), .int (nI kd)] μ (qi (fun v μ' => sP scr μ μ' ∧ v = nI (dueM (nowM σ) j kd 8))) := by
  have hw := hW.now
  have hw1 := hw.1
  refine cp_of ok_X7_dueTicks (L := [.ref 2, .int (nI j), .int (nI kd), .float 0, .float 0]) rfl ?_
  refine tr_aload_n dX7_dueTicks_0 rfl ?_
  refine tr_getR dX7_dueTicks_1 fg_RX7_31 (by first | assumption | decide) (by first | assumption | rfl) rfl (by omega) ?_
  refine tr_aload_n dX7_dueTicks_4 rfl ?_
  refine tr_getR dX7_dueTicks_5 fg_RX7_28 (by first | assumption | decide) (by first | assumption | rfl) rfl (by omega) ?_
  -- at 8: .invokevirtual 142
  refine tr_Vv (As := [_]) dX7_dueTicks_8 fm_RX7_142 rfl rfl (by first | assumption | decide) (by first | assumption | rfl) (Nat.le_of_ble_eq_true rfl) (c_become (d := d) isB_15 isB_10 (by omega) h.2.2.2.1 hw) (fun μ1 ⟨e1, e2⟩ => ?_)
  have hs := sP.of (P := scr) e1 (fun b hb => by simp at hb; unfold scr; omega)
  refine tr_aload_n dX7_dueTicks_11 rfl ?_
  refine tr_getR dX7_dueTicks_12 fg_RX7_31 (by first | assumption | decide) (by first | assumption | rfl) rfl (by omega) ?_
  refine tr_getR dX7_dueTicks_15 fg_RX7_158 (by first | assumption | decide) (by first | assumption | rfl) rfl (by omega) ?_
  refine tr_iload_n dX7_dueTicks_18 rfl ?_
  refine tr_iload_n dX7_dueTicks_19 rfl ?_
  refine tr_iast dX7_dueTicks_20 (by first | assumption | decide) (by first | assumption | rfl) rfl (by omega) (by omega) ?_
  -- at 21: .iconst 0
  have hs1 := hs.put (a := 16) (upd (μ1.1 16) j (nI kd)) (by unfold scr; omega)
  have hr1 : BR (sI μ1 16 (upd (μ1.1 16) j (nI kd))) 15 (nu (nowM σ) (19 + j) kd) := e2.setKind (by omega) hw1
  generalize sI μ1 16 (upd (μ1.1 16) j (nI kd)) = μ2 at hs1 hr1 ⊢
  refine tr_iconst (v := nI 0) dX7_dueTicks_21 (by decide) ?_
  refine tr_istore_n_3 dX7_dueTicks_22 (by decide) rfl ?_
  refine tr_iconst (v := nI 0) dX7_dueTicks_23 (by decide) ?_
  refine tr_istore_4 dX7_dueTicks_24 (by decide) rfl ?_
  -- at 26: .iload 4
  exact tw_mono (l_due (c0 := nowM σ) hj 8 0 (nu (nowM σ) (19 + j) kd) μ2 (by omega) (hw.kind (by omega) hk) hr1 (by rw [nu_n _ _ (by omega)]) (by rw [nu_n _ _ (by omega)]) (by rw [nu_n _ _ (by omega)]) (by rw [nu_s]) (by rw [nu_n _ _ (by omega)]; rfl)) (fun r μ' ⟨v, q1, q2, q3⟩ => ⟨v, q1, hs1.trans q2, q3⟩)
theorem l_never {kd g mk : Nat} (hj : j < 7) : ∀ (m t : Nat) (c : NF) (μ : am_M), t + m = 10 → wfc c → j < c 18 → BR μ 15 c → c (4 + j) = (seenM kd g mk t).1 → c (11 + j) = g → c (26 + j) = mk → c (19 + j) = kd → tw X (d + 2) kX7_figuresNeverShown (qi (fun v μ' => sP scr μ μ' ∧ v = nI (nevM kd g mk))) 25 [.ref 2, .int (nI j), .int (nI (seenM kd g mk t).2), .int (nI t)] [] μ
  | m, t, c, μ, htm, hw, hjc, hr, e4, e11, e26, e19 => by
    refine tr_iload_n dX7_figuresNeverShown_25 rfl ?_
    refine tr_bipush (v := nI 10) dX7_figuresNeverShown_26 (by decide) ?_
    -- at 28: .if_icmp .ge 40
    refine tr_geN (tgt := 68) dX7_figuresNeverShown_28 (by decide) (by omega) (by omega) (fun h1 => ?_) (fun h1 => ?_)
    · obtain rfl : t = 10 := by omega
      have hlt := (seenM_lt kd g mk 10).2
      have hon := ones10 _ hlt
      refine tr_bipush (v := nI 10) dX7_figuresNeverShown_68 (by decide) ?_
      refine tr_iload_n dX7_figuresNeverShown_70 rfl ?_
      -- at 71: .invokestatic 203
      refine tr_Si (As := [_]) dX7_figuresNeverShown_71 fm_RX7_203 rfl rfl (Nat.le_of_ble_eq_true rfl) (c_bitCount (d := d + 1) hlt) (fun v μ1 ⟨g1, g2⟩ => ?_)
      subst μ1; subst v
      first | with_reducible refine tr_isubN dX7_figuresNeverShown_74 (by omega) ?_ | refine tr_isub dX7_figuresNeverShown_74 ?_
      -- at 75: .ireturn
      refine tr_iret dX7_figuresNeverShown_75 (by first | exact trivial | rfl) ⟨sP.rf _ μ, rfl⟩
    · refine tr_aload_n dX7_figuresNeverShown_31 rfl ?_
      refine tr_getR dX7_figuresNeverShown_32 fg_RX7_31 (by first | assumption | decide) (by first | assumption | rfl) rfl (by omega) ?_
      refine tr_getR dX7_figuresNeverShown_35 fg_RX7_170 (by first | assumption | decide) (by first | assumption | rfl) rfl (by omega) ?_
      refine tr_iload_n dX7_figuresNeverShown_38 rfl ?_
      refine tr_aload_n dX7_figuresNeverShown_39 rfl ?_
      refine tr_getR dX7_figuresNeverShown_40 fg_RX7_31 (by first | assumption | decide) (by first | assumption | rfl) rfl (by omega) ?_
      refine tr_iload_n dX7_figuresNeverShown_43 rfl ?_
      -- at 44: .invokevirtual 181
      refine tr_Vi (As := [_]) dX7_figuresNeverShown_44 fm_RX7_181 rfl rfl (by first | assumption | decide) (by first | assumption | rfl) (Nat.le_of_ble_eq_true rfl) (c_afterTurn (d := d) isB_15 hr hw hjc) (fun v μ1 ⟨g1, g2⟩ => ?_)
      subst μ1; subst v
      have en : nxM c j = trnM kd (seenM kd g mk t).1 g mk := by unfold nxM; rw [e19, e4, e11, e26]
      rw [en]
      have hlt := trnM_lt kd (seenM kd g mk t).1 g mk
      refine tr_iast dX7_figuresNeverShown_47 (by first | assumption | decide) (by first | assumption | rfl) rfl (by omega) (by omega) ?_
      -- at 48: .iload_n 2
      have hs := (sP.rf scr μ).put (a := 17) (upd (μ.1 17) j (nI (trnM kd (seenM kd g mk t).1 g mk))) (by unfold scr; omega)
      have hr1 : BR (sI μ 17 (upd (μ.1 17) j (nI (trnM kd (seenM kd g mk t).1 g mk)))) 15 (nu c (4 + j) (trnM kd (seenM kd g mk t).1 g mk)) := hr.setShow hj hw.1
      generalize sI μ 17 (upd (μ.1 17) j (nI (trnM kd (seenM kd g mk t).1 g mk))) = μ1 at hs hr1 ⊢
      have r2 : μ1.1 17 j = nI (trnM kd (seenM kd g mk t).1 g mk) := by
        have := (hr1.2.2.2.2.2 j (by rw [nu_n _ _ (by omega)]; exact hjc)).2.1
        rw [nu_s] at this
        exact this
      refine tr_iload_n dX7_figuresNeverShown_48 rfl ?_
      refine tr_iconst (v := nI 1) dX7_figuresNeverShown_49 (by decide) ?_
      refine tr_aload_n dX7_figuresNeverShown_50 rfl ?_
      refine tr_getR dX7_figuresNeverShown_51 fg_RX7_31 (by first | assumption | decide) (by first | assumption | rfl) rfl (by omega) ?_
      refine tr_getR dX7_figuresNeverShown_54 fg_RX7_170 (by first | assumption | decide) (by first | assumption | rfl) rfl (by omega) ?_
      refine tr_iload_n dX7_figuresNeverShown_57 rfl ?_
      refine tr_iald dX7_figuresNeverShown_58 (by first | assumption | decide) (by first | assumption | rfl) rfl (by omega) (by omega) (by first | assumption | rfl) ?_
      refine tr_ishl dX7_figuresNeverShown_59 ?_
      refine tr_ior dX7_figuresNeverShown_60 ?_
      -- at 61: .istore_n 2
      refine tr_v (or_bit10 _ hlt _ (seenM_lt kd g mk t).2) ?_
      refine tr_istore_n_2 dX7_figuresNeverShown_61 (by decide) rfl ?_
      first | with_reducible refine tr_iincN_3 dX7_figuresNeverShown_62 (by decide) rfl ?_ | refine tr_iinc_3 dX7_figuresNeverShown_62 (by decide) rfl ?_
      refine tr_goto (tgt := 25) dX7_figuresNeverShown_65 (by decide) ?_
      -- at 25: .iload_n 3
      exact tw_mono (l_never hj (m - 1) (t + 1) (nu c (4 + j) (trnM kd (seenM kd g mk t).1 g mk)) μ1 (by omega) (hw.show hj hlt) (by rw [nu_n _ _ (by omega)]; exact hjc) hr1 (by rw [nu_s]; rfl) (by rw [nu_n _ _ (by omega)]; exact e11) (by rw [nu_n _ _ (by omega)]; exact e26) (by rw [nu_n _ _ (by omega)]; exact e19)) (fun r μ' ⟨v, q1, q2, q3⟩ => ⟨v, q1, hs.trans q2, q3⟩)
  termination_by m => m
theorem c_never (h : CI μ σ) (hW : WI σ) (hj : j < nowM σ 18) : cp X (d + 3) kX7_figuresNeverShown [.ref 2, .int (nI j)] μ (qi (fun v μ' => sP scr μ μ' ∧ v = nI (nevM (nowM σ (19 + j)) (nowM σ (11 + j)) (nowM σ (26 + j))))) := by
  have hw := hW.now
  have hw1 := hw.1
  refine cp_of ok_X7_figuresNeverShown (L := [.ref 2, .int (nI j), .float 0, .float 0]) rfl ?_
  refine tr_aload_n dX7_figuresNeverShown_0 rfl ?_
  refine tr_getR dX7_figuresNeverShown_1 fg_RX7_31 (by first | assumption | decide) (by first | assumption | rfl) rfl (by omega) ?_
  refine tr_aload_n dX7_figuresNeverShown_4 rfl ?_
  refine tr_getR dX7_figuresNeverShown_5 fg_RX7_28 (by first | assumption | decide) (by first | assumption | rfl) rfl (by omega) ?_
  -- at 8: .invokevirtual 142
  refine tr_Vv (As := [_]) dX7_figuresNeverShown_8 fm_RX7_142 rfl rfl (by first | assumption | decide) (by first | assumption | rfl) (Nat.le_of_ble_eq_true rfl) (c_become (d := d + 1) isB_15 isB_10 (by omega) h.2.2.2.1 hw) (fun μ1 ⟨e1, e2⟩ => ?_)
  have hs := sP.of (P := scr) e1 (fun b hb => by simp at hb; unfold scr; omega)
  refine tr_aload_n dX7_figuresNeverShown_11 rfl ?_
  refine tr_getR dX7_figuresNeverShown_12 fg_RX7_31 (by first | assumption | decide) (by first | assumption | rfl) rfl (by omega) ?_
  refine tr_getR dX7_figuresNeverShown_15 fg_RX7_170 (by first | assumption | decide) (by first | assumption | rfl) rfl (by omega) ?_
  refine tr_iload_n dX7_figuresNeverShown_18 rfl ?_
  refine tr_iconst (v := nI 0) dX7_figuresNeverShown_19 (by decide) ?_
  refine tr_iast dX7_figuresNeverShown_20 (by first | assumption | decide) (by first | assumption | rfl) rfl (by omega) (by omega) ?_
  -- at 21: .iconst 1
  have hs1 := hs.put (a := 17) (upd (μ1.1 17) j (nI 0)) (by unfold scr; omega)
  have hr1 : BR (sI μ1 17 (upd (μ1.1 17) j (nI 0))) 15 (nu (nowM σ) (4 + j) 0) := e2.setShow (by omega) hw1
  generalize sI μ1 17 (upd (μ1.1 17) j (nI 0)) = μ2 at hs1 hr1 ⊢
  refine tr_iconst (v := nI 1) dX7_figuresNeverShown_21 (by decide) ?_
  refine tr_istore_n_2 dX7_figuresNeverShown_22 (by decide) rfl ?_
  refine tr_iconst (v := nI 0) dX7_figuresNeverShown_23 (by decide) ?_
  refine tr_istore_n_3 dX7_figuresNeverShown_24 (by decide) rfl ?_
  -- at 25: .iload_n 3
  exact tw_mono (l_never (by omega) 10 0 (nu (nowM σ) (4 + j) 0) μ2 (by omega) (hw.show (by omega) (by omega)) (by rw [nu_n _ _ (by omega)]; exact hj) hr1 (by rw [nu_s]; rfl) (by rw [nu_n _ _ (by omega)]) (by rw [nu_n _ _ (by omega)]) (by rw [nu_n _ _ (by omega)])) (fun r μ' ⟨v, q1, q2, q3⟩ => ⟨v, q1, hs1.trans q2, q3⟩)
theorem f_mark (h : CI μ σ) (hW : WI σ) : cp X (d + 4) kX7_mark [.ref 2, .int r, .int x] μ (PO μ (S_mark σ r x)) := by
  have hw := hW.now
  have hw1 := hw.1
  refine cp_of ok_X7_mark (L := [.ref 2, .int r, .int x]) rfl ?_
  refine tr_aload_n dX7_mark_0 rfl ?_
  refine tr_iload_n dX7_mark_1 rfl ?_
  -- at 2: .invokevirtual 152
  refine tr_Vi (As := [_]) dX7_mark_2 fm_RX7_152 rfl rfl (by first | assumption | decide) (by first | assumption | rfl) (Nat.le_of_ble_eq_true rfl) (c_isDrum (d := d + 2) h) (fun v μ1 ⟨e1, e2⟩ => ?_)
  subst μ1; subst v
  cases hr : ixV r (nowM σ 18) with
  | none =>
    refine tr_ifb0 (tgt := 18) dX7_mark_5 (by decide) (fun h1 => ?_) (fun h1 => ?_)
    · refine tr_iconst (v := -1) dX7_mark_18 (by decide) ?_
      -- at 19: .ireturn
      refine tr_iret dX7_mark_19 (by first | exact trivial | rfl) (po_same h (by simp only [S_mark, hr]))
    · cases h1
  | some j =>
    obtain ⟨rfl, hj⟩ := ixV_some (by omega) hr
    obtain ⟨q1, q2, q3, q4⟩ := h.2.2.2.1.2.2.2.2.2 j hj
    obtain ⟨w1, w2, w3, w4⟩ := hw.2.2.2 j (by omega)
    refine tr_ifb0 (tgt := 18) dX7_mark_5 (by decide) (fun h1 => ?_) (fun h1 => ?_)
    · cases h1
    · cases hx : ixV x 6 with
      | none =>
        refine tr_iload_n dX7_mark_8 rfl ?_
        -- at 9: .ifCond .le 9
        refine tr_if_le (tgt := 18) dX7_mark_9 (by decide) (fun h2 => ?_) (fun h2 => ?_)
        · refine tr_iconst (v := -1) dX7_mark_18 (by decide) ?_
          -- at 19: .ireturn
          refine tr_iret dX7_mark_19 (by first | exact trivial | rfl) (po_same h (by simp only [S_mark, hr, hx]))
        · refine tr_iload_n dX7_mark_12 rfl ?_
          refine tr_bipush (v := nI 6) dX7_mark_13 (by decide) ?_
          -- at 15: .if_icmp .lt 5
          refine tr_icmp_lt (tgt := 20) dX7_mark_15 (by decide) (fun h3 => ?_) (fun h3 => ?_)
          · exact absurd ⟨Int32.le_of_lt (Int32.not_le.mp h2), h3⟩ (ixV_none hx)
          · refine tr_iconst (v := -1) dX7_mark_18 (by decide) ?_
            -- at 19: .ireturn
            refine tr_iret dX7_mark_19 (by first | exact trivial | rfl) (po_same h (by simp only [S_mark, hr, hx]))
      | some q =>
        obtain ⟨rfl, hq⟩ := ixV_some (by omega) hx
        refine tr_iload_n dX7_mark_8 rfl ?_
        -- at 9: .ifCond .le 9
        refine tr_if_le (tgt := 18) dX7_mark_9 (by decide) (fun h2 => ?_) (fun h2 => ?_)
        · have : q ≤ 0 := (nI_leI (b := 0) (by omega) (by omega)).mp h2
          refine tr_iconst (v := -1) dX7_mark_18 (by decide) ?_
          -- at 19: .ireturn
          refine tr_iret dX7_mark_19 (by first | exact trivial | rfl) (po_same h (by simp only [S_mark, hr, hx]; rw [if_pos (by omega)]))
        · have hq0 : q ≠ 0 := fun e => h2 (by rw [e]; decide)
          refine tr_iload_n dX7_mark_12 rfl ?_
          refine tr_bipush (v := nI 6) dX7_mark_13 (by decide) ?_
          -- at 15: .if_icmp .lt 5
          refine tr_ltN (tgt := 20) dX7_mark_15 (by decide) (by omega) (by omega) (fun h3 => ?_) (fun h3 => ?_)
          · refine tr_aload_n dX7_mark_20 rfl ?_
            refine tr_getR dX7_mark_21 fg_RX7_28 (by first | assumption | decide) (by first | assumption | rfl) rfl (by omega) ?_
            refine tr_getR dX7_mark_24 fg_RX7_158 (by first | assumption | decide) (by first | assumption | rfl) rfl (by omega) ?_
            refine tr_iload_n dX7_mark_27 rfl ?_
            refine tr_iald dX7_mark_28 (by first | assumption | decide) (by first | assumption | rfl) rfl (by omega) (by omega) (by first | assumption | rfl) ?_
            refine tr_iload_n dX7_mark_29 rfl ?_
            -- at 30: .invokestatic 161
            refine tr_Si (As := [_, _]) dX7_mark_30 fm_RX7_161 rfl rfl (Nat.le_of_ble_eq_true rfl) (c_isOf (d := d + 2) w3 hq) (fun v μ1 ⟨e1, e2⟩ => ?_)
            subst μ1; subst v
            refine tr_ifb1 (tgt := 42) dX7_mark_33 (by decide) (fun h4 => ?_) (fun h4 => ?_)
            · have e : S_mark σ (nI j) (nI q) = (mkM (nowM σ) j q, σ) := by
                simp only [S_mark, hr, hx]
                rw [if_neg hq0, if_pos h4]
              rw [e]
              refine tr_iload_n dX7_mark_42 rfl ?_
              -- at 43: .tableswitch 89 1 4 #[29, 44, 50, 75]
              have hk : q = 1 ∨ q = 2 ∨ q = 3 ∨ q = 4 ∨ q = 5 := by omega
              rcases hk with rfl | rfl | rfl | rfl | rfl
              · refine tr_tableIn (off := 29) (tgt := 72) dX7_mark_43 (by decide) (by decide) (by decide) (by decide) ?_
                refine tr_aload_n dX7_mark_72 rfl ?_
                refine tr_iload_n dX7_mark_73 rfl ?_
                refine tr_aload_n dX7_mark_74 rfl ?_
                refine tr_getR dX7_mark_75 fg_RX7_28 (by first | assumption | decide) (by first | assumption | rfl) rfl (by omega) ?_
                refine tr_getR dX7_mark_78 fg_RX7_158 (by first | assumption | decide) (by first | assumption | rfl) rfl (by omega) ?_
                refine tr_iload_n dX7_mark_81 rfl ?_
                refine tr_iald dX7_mark_82 (by first | assumption | decide) (by first | assumption | rfl) rfl (by omega) (by omega) (by first | assumption | rfl) ?_
                -- at 83: .invokevirtual 164
                refine tr_Vi (As := [_, _]) dX7_mark_83 fm_RX7_164 rfl rfl (by first | assumption | decide) (by first | assumption | rfl) (Nat.le_of_ble_eq_true rfl) (c_due (d := d + 1) h hW hj w3) (fun v μ1 ⟨e1, e2⟩ => ?_)
                refine tr_iret dX7_mark_86 (by first | exact trivial | rfl) ⟨e2.trans (by rw [mkM, if_pos rfl]), h.scr e1, e1.fr (fun b hb => by unfold scr at hb; omega)⟩
              · refine tr_tableIn (off := 44) (tgt := 87) dX7_mark_43 (by decide) (by decide) (by decide) (by decide) ?_
                refine tr_aload_n dX7_mark_87 rfl ?_
                refine tr_iload_n dX7_mark_88 rfl ?_
                -- at 89: .invokevirtual 167
                refine tr_Vi (As := [_]) dX7_mark_89 fm_RX7_167 rfl rfl (by first | assumption | decide) (by first | assumption | rfl) (Nat.le_of_ble_eq_true rfl) (c_never (d := d) h hW hj) (fun v μ1 ⟨e1, e2⟩ => ?_)
                refine tr_iret dX7_mark_92 (by first | exact trivial | rfl) ⟨e2.trans (by rw [mkM, if_neg (by omega), if_pos rfl]), h.scr e1, e1.fr (fun b hb => by unfold scr at hb; omega)⟩
              · refine tr_tableIn (off := 50) (tgt := 93) dX7_mark_43 (by decide) (by decide) (by decide) (by decide) ?_
                refine tr_aload_n dX7_mark_93 rfl ?_
                refine tr_getR dX7_mark_94 fg_RX7_28 (by first | assumption | decide) (by first | assumption | rfl) rfl (by omega) ?_
                refine tr_getR dX7_mark_97 fg_RX7_170 (by first | assumption | decide) (by first | assumption | rfl) rfl (by omega) ?_
                refine tr_iload_n dX7_mark_100 rfl ?_
                refine tr_iald dX7_mark_101 (by first | assumption | decide) (by first | assumption | rfl) rfl (by omega) (by omega) (by first | assumption | rfl) ?_
                refine tr_aload_n dX7_mark_102 rfl ?_
                refine tr_getR dX7_mark_103 fg_RX7_28 (by first | assumption | decide) (by first | assumption | rfl) rfl (by omega) ?_
                refine tr_getR dX7_mark_106 fg_RX7_173 (by first | assumption | decide) (by first | assumption | rfl) rfl (by omega) ?_
                refine tr_iload_n dX7_mark_109 rfl ?_
                refine tr_iald dX7_mark_110 (by first | assumption | decide) (by first | assumption | rfl) rfl (by omega) (by omega) (by first | assumption | rfl) ?_
                -- at 111: .isub
                refine tr_isub dX7_mark_111 ?_
                refine tr_bipush (v := nI 10) dX7_mark_112 (by decide) ?_
                refine tr_Si (As := [_, _]) dX7_mark_114 fm_RX7_176 rfl rfl (Nat.le_of_ble_eq_true rfl) (c_fmod (d := d + 2) w1 w2) (fun v μ1 ⟨e1, e2⟩ => ?_)
                subst μ1; subst v
                refine tr_iret dX7_mark_117 (by first | exact trivial | rfl) (po_same h (by rw [mkM, if_neg (by omega), if_neg (by omega), if_pos rfl]))
              · refine tr_tableIn (off := 75) (tgt := 118) dX7_mark_43 (by decide) (by decide) (by decide) (by decide) ?_
                refine tr_aload_n dX7_mark_118 rfl ?_
                refine tr_iload_n dX7_mark_119 rfl ?_
                refine tr_iconst (v := nI 1) dX7_mark_120 (by decide) ?_
                -- at 121: .invokevirtual 164
                refine tr_Vi (As := [_, _]) dX7_mark_121 fm_RX7_164 rfl rfl (by first | assumption | decide) (by first | assumption | rfl) (Nat.le_of_ble_eq_true rfl) (c_due (d := d + 1) h hW hj (by omega)) (fun v μ1 ⟨e1, e2⟩ => ?_)
                subst v
                have h1 := h.scr e1
                refine tr_aload_n dX7_mark_124 rfl ?_
                refine tr_iload_n dX7_mark_125 rfl ?_
                refine tr_iconst (v := nI 4) dX7_mark_126 (by decide) ?_
                -- at 127: .invokevirtual 164
                refine tr_Vi (As := [_, _]) dX7_mark_127 fm_RX7_164 rfl rfl (by first | assumption | decide) (by first | assumption | rfl) (Nat.le_of_ble_eq_true rfl) (c_due (d := d + 1) h1 hW hj (by omega)) (fun v μ2 ⟨e3, e4⟩ => ?_)
                subst v
                refine tr_isub dX7_mark_130 ?_
                have e5 := e1.trans e3
                refine tr_iret dX7_mark_131 (by first | exact trivial | rfl) ⟨by rw [mkM, if_neg (by omega), if_neg (by omega), if_neg (by omega), if_pos rfl], h.scr e5, e5.fr (fun b hb => by unfold scr at hb; omega)⟩
              · refine tr_tableOut (tgt := 132) dX7_mark_43 (by decide) (by decide) ?_
                refine tr_aload_n dX7_mark_132 rfl ?_
                refine tr_getR dX7_mark_133 fg_RX7_28 (by first | assumption | decide) (by first | assumption | rfl) rfl (by omega) ?_
                refine tr_iload_n dX7_mark_136 rfl ?_
                -- at 137: .invokevirtual 181
                refine tr_Vi (As := [_]) dX7_mark_137 fm_RX7_181 rfl rfl (by first | assumption | decide) (by first | assumption | rfl) (Nat.le_of_ble_eq_true rfl) (c_afterTurn (d := d + 1) isB_10 h.2.2.2.1 hw hj) (fun v μ1 ⟨e1, e2⟩ => ?_)
                subst μ1; subst v
                refine tr_aload_n dX7_mark_140 rfl ?_
                refine tr_getR dX7_mark_141 fg_RX7_28 (by first | assumption | decide) (by first | assumption | rfl) rfl (by omega) ?_
                refine tr_getR dX7_mark_144 fg_RX7_170 (by first | assumption | decide) (by first | assumption | rfl) rfl (by omega) ?_
                refine tr_iload_n dX7_mark_147 rfl ?_
                refine tr_iald dX7_mark_148 (by first | assumption | decide) (by first | assumption | rfl) rfl (by omega) (by omega) (by first | assumption | rfl) ?_
                -- at 149: .isub
                refine tr_isub dX7_mark_149 ?_
                refine tr_bipush (v := nI 10) dX7_mark_150 (by decide) ?_
                refine tr_Si (As := [_, _]) dX7_mark_152 fm_RX7_176 rfl rfl (Nat.le_of_ble_eq_true rfl) (c_fmod (d := d + 2) (trnM_lt _ _ _ _) w1) (fun v μ1 ⟨e1, e2⟩ => ?_)
                subst μ1; subst v
                refine tr_iret dX7_mark_155 (by first | exact trivial | rfl) (po_same h (by rw [mkM, if_neg (by omega), if_neg (by omega), if_neg (by omega), if_neg (by omega)]))
            · have e : S_mark σ (nI j) (nI q) = (-3, gF σ 3) := by
                simp only [S_mark, hr, hx]
                rw [if_neg hq0, if_neg (by rw [h4]; decide)]
              rw [e]
              refine tr_aload_n dX7_mark_36 rfl ?_
              refine tr_iconst (v := nI 3) dX7_mark_37 (by decide) ?_
              -- at 38: .invokevirtual 88
              refine tr_Vi (As := [_]) dX7_mark_38 fm_RX7_88 rfl rfl (by first | assumption | decide) (by first | assumption | rfl) (Nat.le_of_ble_eq_true rfl) (c_found (d := d + 2) (k := 3) (by omega) h) (fun v μ1 ⟨e1, e2, e3⟩ => ?_)
              refine tr_iret dX7_mark_41 (by first | exact trivial | rfl) ⟨e1, e2, e3⟩
          · omega
theorem f_later (h : CI μ σ) (hW : WI σ) : cp X (d + 5) kX7_later [.ref 2, .int r] μ (PO μ (S_later σ r)) := by
  have hw := hW.now
  have hw1 := hw.1
  have r4 := h.2.2.2.1.1
  refine cp_of ok_X7_later (L := [.ref 2, .int r]) rfl ?_
  cases hr : ixV r 61 with
  | none =>
    refine tr_iload_n dX7_later_0 rfl ?_
    -- at 1: .ifCond .lt 9
    refine tr_if_lt (tgt := 10) dX7_later_1 (by decide) (fun h1 => ?_) (fun h1 => ?_)
    · refine tr_iconst (v := -1) dX7_later_10 (by decide) ?_
      -- at 11: .ireturn
      refine tr_iret dX7_later_11 (by first | exact trivial | rfl) (po_same h (by simp only [S_later, hr]))
    · refine tr_iload_n dX7_later_4 rfl ?_
      refine tr_bipush (v := nI 60) dX7_later_5 (by decide) ?_
      -- at 7: .if_icmp .le 5
      refine tr_icmp_le (tgt := 12) dX7_later_7 (by decide) (fun h2 => ?_) (fun h2 => ?_)
      · obtain ⟨q, hq, rfl⟩ := nI_of h1
        have := (nI_leI hq (by omega)).mp h2
        rw [ixV_nI (by omega) (by omega)] at hr
        cases hr
      · refine tr_iconst (v := -1) dX7_later_10 (by decide) ?_
        -- at 11: .ireturn
        refine tr_iret dX7_later_11 (by first | exact trivial | rfl) (po_same h (by simp only [S_later, hr]))
  | some q =>
    obtain ⟨rfl, hq⟩ := ixV_some (by omega) hr
    refine tr_iload_n dX7_later_0 rfl ?_
    -- at 1: .ifCond .lt 9
    refine tr_if_lt (tgt := 10) dX7_later_1 (by decide) (fun h1 => ?_) (fun h1 => ?_)
    · exact absurd h1 (nI_pos (by omega))
    · refine tr_iload_n dX7_later_4 rfl ?_
      refine tr_bipush (v := nI 60) dX7_later_5 (by decide) ?_
      -- at 7: .if_icmp .le 5
      refine tr_leN (tgt := 12) dX7_later_7 (by decide) (by omega) (by omega) (fun h2 => ?_) (fun h2 => ?_)
      · refine tr_aload_n dX7_later_12 rfl ?_
        refine tr_getR dX7_later_13 fg_RX7_28 (by first | assumption | decide) (by first | assumption | rfl) rfl (by omega) ?_
        refine tr_getI dX7_later_16 fg_RX7_149 (by first | assumption | decide) (by first | assumption | rfl) rfl (by first | assumption | rfl) ?_
        -- at 19: .ifCond .ne 6
        refine tr_ifnN (tgt := 25) dX7_later_19 (by decide) (by omega) (fun h3 => ?_) (fun h3 => ?_)
        · have e : S_later σ (nI q) = (nI (numM (goI q (nowM σ)) (nowM σ 18)), gA σ (nI (goI q (nowM σ) 2) - nI (nowM σ 2))) := by
            simp only [S_later, hr]
            rw [if_neg h3]
          rw [e]
          refine tr_aload_n dX7_later_25 rfl ?_
          refine tr_getR dX7_later_26 fg_RX7_31 (by first | assumption | decide) (by first | assumption | rfl) rfl (by omega) ?_
          refine tr_aload_n dX7_later_29 rfl ?_
          refine tr_getR dX7_later_30 fg_RX7_28 (by first | assumption | decide) (by first | assumption | rfl) rfl (by omega) ?_
          -- at 33: .invokevirtual 142
          refine tr_Vv (As := [_]) dX7_later_33 fm_RX7_142 rfl rfl (by first | assumption | decide) (by first | assumption | rfl) (Nat.le_of_ble_eq_true rfl) (c_become (d := d + 3) isB_15 isB_10 (by omega) h.2.2.2.1 hw) (fun μ1 ⟨e1, e2⟩ => ?_)
          refine tr_aload_n dX7_later_36 rfl ?_
          refine tr_getR dX7_later_37 fg_RX7_31 (by first | assumption | decide) (by first | assumption | rfl) rfl (by omega) ?_
          refine tr_iload_n dX7_later_40 rfl ?_
          -- at 41: .invokevirtual 211
          refine tr_Vv (As := [_]) dX7_later_41 fm_RX7_211 rfl rfl (by first | assumption | decide) (by first | assumption | rfl) (Nat.le_of_ble_eq_true rfl) (c_stepOn (d := d) (by omega) isB_15 e2 hw) (fun μ2 ⟨e3, e4⟩ => ?_)
          have hs := (sP.of (P := scr) e1 (fun b hb => by simp at hb; unfold scr; omega)).trans (sP.of (P := scr) e3 (fun b hb => by simp at hb; unfold scr; omega))
          have hc := h.scr hs
          have r7 := e4.2.2.2.1
          have n7 := hc.2.2.2.1.2.2.2.1
          refine tr_aload_n dX7_later_44 rfl ?_
          refine tr_aload_n dX7_later_45 rfl ?_
          refine tr_getR dX7_later_46 fg_RX7_31 (by first | assumption | decide) (by first | assumption | rfl) rfl (by omega) ?_
          refine tr_getI dX7_later_49 fg_RX7_190 (by first | assumption | decide) (by first | assumption | rfl) rfl (by first | assumption | rfl) ?_
          refine tr_aload_n dX7_later_52 rfl ?_
          refine tr_getR dX7_later_53 fg_RX7_28 (by first | assumption | decide) (by first | assumption | rfl) rfl (by omega) ?_
          refine tr_getI dX7_later_56 fg_RX7_190 (by first | assumption | decide) (by first | assumption | rfl) rfl (by first | assumption | rfl) ?_
          -- at 59: .isub
          refine tr_isub dX7_later_59 ?_
          refine tr_putI dX7_later_60 fp_RX7_103 (by first | assumption | decide) (by first | assumption | rfl) rfl ?_
          have hc2 := hc.asked (nI (goI q (nowM σ) 2) - nI (nowM σ 2))
          have hb2 : BR (sI μ2 2 (upd (μ2.1 2) 15 (nI (goI q (nowM σ) 2) - nI (nowM σ 2)))) 15 (goI q (nowM σ)) := e4.keep (fun b b1 b2 => sI_ne _ _ (by omega))
          have hf2 : fr μ (sI μ2 2 (upd (μ2.1 2) 15 (nI (goI q (nowM σ) 2) - nI (nowM σ 2)))) := (hs.fr (fun b hb => by unfold scr at hb; omega)).trans ((((sP.rf (fun b => b = 2) μ2).put _ rfl)).fr (fun b hb => by omega))
          generalize sI μ2 2 (upd (μ2.1 2) 15 (nI (goI q (nowM σ) 2) - nI (nowM σ 2))) = μ3 at hc2 hb2 hf2 ⊢
          refine tr_aload_n dX7_later_63 rfl ?_
          refine tr_getR dX7_later_64 fg_RX7_31 (by first | assumption | decide) (by first | assumption | rfl) rfl (by omega) ?_
          -- at 67: .invokevirtual 214
          refine tr_Vi (As := []) dX7_later_67 fm_RX7_214 rfl rfl (by first | assumption | decide) (by first | assumption | rfl) (Nat.le_of_ble_eq_true rfl) (c_number (d := d + 3) isB_15 hb2 (goI_wf _ _ hw)) (fun v μ4 ⟨g1, g2⟩ => ?_)
          subst μ4; subst v
          refine tr_iret dX7_later_70 (by first | exact trivial | rfl) ⟨by rw [goI_keep _ _ hw 18 (by omega) (by omega) (by omega)], hc2, hf2⟩
        · refine tr_bipush (v := -4) dX7_later_22 (by decide) ?_
          -- at 24: .ireturn
          refine tr_iret dX7_later_24 (by first | exact trivial | rfl) (po_same h (by simp only [S_later, hr]; rw [if_pos h3]))
      · omega
theorem f_ends (h : CI μ σ) (hW : WI σ) : cp X (d + 5) kX7_ends [.ref 2] μ (PO μ (S_ends σ)) := by
  have hw := hW.now
  have hw1 := hw.1
  have r4 := h.2.2.2.1.1
  have hle := tM_le 61 (nowM σ)
  refine cp_of ok_X7_ends (L := [.ref 2, .float 0]) rfl ?_
  refine tr_aload_n dX7_ends_0 rfl ?_
  refine tr_getR dX7_ends_1 fg_RX7_28 (by first | assumption | decide) (by first | assumption | rfl) rfl (by omega) ?_
  refine tr_getI dX7_ends_4 fg_RX7_149 (by first | assumption | decide) (by first | assumption | rfl) rfl (by first | assumption | rfl) ?_
  -- at 7: .ifCond .ne 6
  refine tr_ifnN (tgt := 13) dX7_ends_7 (by decide) (by omega) (fun h3 => ?_) (fun h3 => ?_)
  · refine tr_aload_n dX7_ends_13 rfl ?_
    refine tr_getR dX7_ends_14 fg_RX7_31 (by first | assumption | decide) (by first | assumption | rfl) rfl (by omega) ?_
    refine tr_aload_n dX7_ends_17 rfl ?_
    refine tr_getR dX7_ends_18 fg_RX7_28 (by first | assumption | decide) (by first | assumption | rfl) rfl (by omega) ?_
    -- at 21: .invokevirtual 142
    refine tr_Vv (As := [_]) dX7_ends_21 fm_RX7_142 rfl rfl (by first | assumption | decide) (by first | assumption | rfl) (Nat.le_of_ble_eq_true rfl) (c_become (d := d + 3) isB_15 isB_10 (by omega) h.2.2.2.1 hw) (fun μ1 ⟨e1, e2⟩ => ?_)
    refine tr_aload_n dX7_ends_24 rfl ?_
    refine tr_getR dX7_ends_25 fg_RX7_31 (by first | assumption | decide) (by first | assumption | rfl) rfl (by omega) ?_
    refine tr_bipush (v := nI 60) dX7_ends_28 (by decide) ?_
    -- at 30: .invokevirtual 218
    refine tr_v (show nI 60 = nI 61 - 1 by decide) ?_
    refine tr_Vi (As := [_]) dX7_ends_30 fm_RX7_218 rfl rfl (by first | assumption | decide) (by first | assumption | rfl) (Nat.le_of_ble_eq_true rfl) (c_ticks (d := d) (by omega) isB_15 e2 hw) (fun v μ2 ⟨e3, e4, e5, e6⟩ => ?_)
    subst v
    have hs := (sP.of (P := scr) e1 (fun b hb => by simp at hb; unfold scr; omega)).trans (sP.of (P := scr) e3 (fun b hb => by simp at hb; unfold scr; omega))
    have hc := h.scr hs
    have hf := hs.fr (fun b hb => by unfold scr at hb; omega)
    refine tr_istore_n_1 dX7_ends_33 (by decide) rfl ?_
    refine tr_iload_n dX7_ends_34 rfl ?_
    refine tr_bipush (v := nI 60) dX7_ends_35 (by decide) ?_
    -- at 37: .if_icmp .le 6
    refine tr_leN (tgt := 43) dX7_ends_37 (by decide) (by omega) (by omega) (fun h4 => ?_) (fun h4 => ?_)
    · have e : S_ends σ = (nI (tM 61 (nowM σ)), gA σ (nI (goI (tM 61 (nowM σ)) (nowM σ) 2) - nI (nowM σ 2))) := by rw [S_ends, if_neg h3, if_neg (by omega)]
      rw [e]
      have r7 := (e5 (by omega)).2.2.2.1
      have n7 := hc.2.2.2.1.2.2.2.1
      refine tr_aload_n dX7_ends_43 rfl ?_
      refine tr_aload_n dX7_ends_44 rfl ?_
      refine tr_getR dX7_ends_45 fg_RX7_31 (by first | assumption | decide) (by first | assumption | rfl) rfl (by omega) ?_
      refine tr_getI dX7_ends_48 fg_RX7_190 (by first | assumption | decide) (by first | assumption | rfl) rfl (by first | assumption | rfl) ?_
      refine tr_aload_n dX7_ends_51 rfl ?_
      refine tr_getR dX7_ends_52 fg_RX7_28 (by first | assumption | decide) (by first | assumption | rfl) rfl (by omega) ?_
      refine tr_getI dX7_ends_55 fg_RX7_190 (by first | assumption | decide) (by first | assumption | rfl) rfl (by first | assumption | rfl) ?_
      -- at 58: .isub
      refine tr_isub dX7_ends_58 ?_
      refine tr_putI dX7_ends_59 fp_RX7_103 (by first | assumption | decide) (by first | assumption | rfl) rfl ?_
      refine tr_iload_n dX7_ends_62 rfl ?_
      -- at 63: .ireturn
      refine tr_iret dX7_ends_63 (by first | exact trivial | rfl) ⟨rfl, hc.asked _, hf.trans ((((sP.rf (fun b => b = 2) μ2).put _ rfl)).fr (fun b hb => by omega))⟩
    · have e : S_ends σ = (-9, σ) := by rw [S_ends, if_neg h3, if_pos (by omega)]
      rw [e]
      refine tr_bipush (v := -9) dX7_ends_40 (by decide) ?_
      -- at 42: .ireturn
      refine tr_iret dX7_ends_42 (by first | exact trivial | rfl) ⟨rfl, hc, hf⟩
  · refine tr_bipush (v := -4) dX7_ends_10 (by decide) ?_
    -- at 12: .ireturn
    refine tr_iret dX7_ends_12 (by first | exact trivial | rfl) (po_same h (by rw [S_ends, if_pos h3]))
theorem c_tbp {p : Nat} (hp : p ≤ 9) (h : CI μ σ) (hW : WI σ) : cp X (d + 5) kX7_ticksByPower [.ref 2, .int (nI p)] μ (qi (fun v μ' => sP scr μ μ' ∧ v = nI (tM 61 (nu (nowM σ) 0 p)))) := by
  have hw := hW.now
  refine cp_of ok_X7_ticksByPower (L := [.ref 2, .int (nI p)]) rfl ?_
  refine tr_aload_n dX7_ticksByPower_0 rfl ?_
  refine tr_getR dX7_ticksByPower_1 fg_RX7_31 (by first | assumption | decide) (by first | assumption | rfl) rfl (by omega) ?_
  refine tr_aload_n dX7_ticksByPower_4 rfl ?_
  refine tr_getR dX7_ticksByPower_5 fg_RX7_28 (by first | assumption | decide) (by first | assumption | rfl) rfl (by omega) ?_
  -- at 8: .invokevirtual 142
  refine tr_Vv (As := [_]) dX7_ticksByPower_8 fm_RX7_142 rfl rfl (by first | assumption | decide) (by first | assumption | rfl) (Nat.le_of_ble_eq_true rfl) (c_become (d := d + 3) isB_15 isB_10 (by omega) h.2.2.2.1 hw) (fun μ1 ⟨e1, e2⟩ => ?_)
  have hs := sP.of (P := scr) e1 (fun b hb => by simp at hb; unfold scr; omega)
  refine tr_aload_n dX7_ticksByPower_11 rfl ?_
  refine tr_getR dX7_ticksByPower_12 fg_RX7_31 (by first | assumption | decide) (by first | assumption | rfl) rfl (by omega) ?_
  refine tr_iload_n dX7_ticksByPower_15 rfl ?_
  refine tr_putI dX7_ticksByPower_16 fp_RX7_197 (by first | assumption | decide) (by first | assumption | rfl) rfl ?_
  -- at 19: .aload_n 0
  have hs1 := hs.put (a := 15) (upd (μ1.1 15) 5 (nI p)) (by unfold scr; omega)
  have hr1 := e2.setF5 (v := p)
  generalize sI μ1 15 (upd (μ1.1 15) 5 (nI p)) = μ2 at hs1 hr1 ⊢
  refine tr_aload_n dX7_ticksByPower_19 rfl ?_
  refine tr_getR dX7_ticksByPower_20 fg_RX7_31 (by first | assumption | decide) (by first | assumption | rfl) rfl (by omega) ?_
  refine tr_bipush (v := nI 60) dX7_ticksByPower_23 (by decide) ?_
  -- at 25: .invokevirtual 218
  refine tr_v (show nI 60 = nI 61 - 1 by decide) ?_
  refine tr_Vi (As := [_]) dX7_ticksByPower_25 fm_RX7_218 rfl rfl (by first | assumption | decide) (by first | assumption | rfl) (Nat.le_of_ble_eq_true rfl) (c_ticks (d := d) (by omega) isB_15 hr1 (hw.power hp)) (fun v μ3 ⟨e3, e4, e5, e6⟩ => ?_)
  refine tr_iret dX7_ticksByPower_28 (by first | exact trivial | rfl) ⟨hs1.trans (sP.of (P := scr) e3 (fun b hb => by simp at hb; unfold scr; omega)), e4⟩
theorem l_least {m0 : am_M} {t : Nat} (ht : t ≤ 60) (hW : WI σ) : ∀ (m p : Nat) (μ : am_M), p + m = 9 → 1 ≤ p → CI μ σ → fr m0 μ → tw X (d + 5) kX7_least (PO m0 (nI (leaM (nowM σ) t m p), gA σ (nI t))) 31 [.ref 2, .int (nI t), .int (nI p)] [] μ
  | m, p, μ, hpm, hp1, h, hf => by
    have hend : ∀ (μ : am_M), CI μ σ → fr m0 μ → leaM (nowM σ) t m p = p → tw X (d + 5) kX7_least (PO m0 (nI (leaM (nowM σ) t m p), gA σ (nI t))) 52 [.ref 2, .int (nI t), .int (nI p)] [] μ := by
      intro μ h hf e
      refine tr_aload_n dX7_least_52 rfl ?_
      refine tr_iload_n dX7_least_53 rfl ?_
      refine tr_putI dX7_least_54 fp_RX7_103 (by first | assumption | decide) (by first | assumption | rfl) rfl ?_
      refine tr_iload_n dX7_least_57 rfl ?_
      -- at 58: .ireturn
      refine tr_iret dX7_least_58 (by first | exact trivial | rfl) ⟨by rw [e], h.asked _, hf.trans ((((sP.rf (fun b => b = 2) μ).put _ rfl)).fr (fun b hb => by omega))⟩
    refine tr_iload_n dX7_least_31 rfl ?_
    refine tr_bipush (v := nI 9) dX7_least_32 (by decide) ?_
    -- at 34: .if_icmp .ge 18
    refine tr_geN (tgt := 52) dX7_least_34 (by decide) (by omega) (by omega) (fun h1 => ?_) (fun h1 => ?_)
    · exact hend μ h hf (by rw [show m = 0 by omega]; rfl)
    · obtain ⟨m', rfl⟩ : ∃ m', m = m' + 1 := ⟨m - 1, by omega⟩
      have hle := tM_le 61 (nu (nowM σ) 0 p)
      refine tr_aload_n dX7_least_37 rfl ?_
      refine tr_iload_n dX7_least_38 rfl ?_
      -- at 39: .invokevirtual 233
      refine tr_Vi (As := [_]) dX7_least_39 fm_RX7_233 rfl rfl (by first | assumption | decide) (by first | assumption | rfl) (Nat.le_of_ble_eq_true rfl) (c_tbp (d := d) (by omega) h hW) (fun v μ1 ⟨e1, e2⟩ => ?_)
      subst v
      have hc := h.scr e1
      have hf1 := hf.trans (e1.fr (fun b hb => by unfold scr at hb; omega))
      refine tr_iload_n dX7_least_42 rfl ?_
      -- at 43: .if_icmp .le 9
      refine tr_leN (tgt := 52) dX7_least_43 (by decide) (by omega) (by omega) (fun h2 => ?_) (fun h2 => ?_)
      · exact hend μ1 hc hf1 (by rw [leaM, if_pos h2])
      · first | with_reducible refine tr_iincN_2 dX7_least_46 (by decide) rfl ?_ | refine tr_iinc_2 dX7_least_46 (by decide) rfl ?_
        refine tr_goto (tgt := 31) dX7_least_49 (by decide) ?_
        -- at 31: .iload_n 2
        rw [leaM, if_neg (by omega)]
        exact l_least ht hW m' (p + 1) μ1 (by omega) (by omega) hc hf1
theorem f_least (h : CI μ σ) (hW : WI σ) : cp X (d + 6) kX7_least [.ref 2] μ (PO μ (S_least σ)) := by
  have hw1 := hW.now.1
  have r4 := h.2.2.2.1.1
  have hle := tM_le 61 (nu (nowM σ) 0 9)
  refine cp_of ok_X7_least (L := [.ref 2, .float 0, .float 0]) rfl ?_
  refine tr_aload_n dX7_least_0 rfl ?_
  refine tr_getR dX7_least_1 fg_RX7_28 (by first | assumption | decide) (by first | assumption | rfl) rfl (by omega) ?_
  refine tr_getI dX7_least_4 fg_RX7_149 (by first | assumption | decide) (by first | assumption | rfl) rfl (by first | assumption | rfl) ?_
  -- at 7: .ifCond .ne 6
  refine tr_ifnN (tgt := 13) dX7_least_7 (by decide) (by omega) (fun h3 => ?_) (fun h3 => ?_)
  · refine tr_aload_n dX7_least_13 rfl ?_
    refine tr_bipush (v := nI 9) dX7_least_14 (by decide) ?_
    -- at 16: .invokevirtual 233
    refine tr_Vi (As := [_]) dX7_least_16 fm_RX7_233 rfl rfl (by first | assumption | decide) (by first | assumption | rfl) (Nat.le_of_ble_eq_true rfl) (c_tbp (d := d) (by omega) h hW) (fun v μ1 ⟨e1, e2⟩ => ?_)
    subst v
    have hc := h.scr e1
    have hf1 := e1.fr (fun b hb => by unfold scr at hb; omega)
    refine tr_istore_n_1 dX7_least_19 (by decide) rfl ?_
    refine tr_iload_n dX7_least_20 rfl ?_
    refine tr_bipush (v := nI 60) dX7_least_21 (by decide) ?_
    -- at 23: .if_icmp .le 6
    refine tr_leN (tgt := 29) dX7_least_23 (by decide) (by omega) (by omega) (fun h4 => ?_) (fun h4 => ?_)
    · have e : S_least σ = (nI (leaM (nowM σ) (tM 61 (nu (nowM σ) 0 9)) 8 1), gA σ (nI (tM 61 (nu (nowM σ) 0 9)))) := by rw [S_least, if_neg h3, if_neg (by omega)]
      rw [e]
      refine tr_iconst (v := nI 1) dX7_least_29 (by decide) ?_
      refine tr_istore_n_2 dX7_least_30 (by decide) rfl ?_
      -- at 31: .iload_n 2
      exact l_least h4 hW 8 1 μ1 (by omega) (by omega) hc hf1
    · have e : S_least σ = (-9, σ) := by rw [S_least, if_neg h3, if_pos (by omega)]
      rw [e]
      refine tr_bipush (v := -9) dX7_least_26 (by decide) ?_
      -- at 28: .ireturn
      refine tr_iret dX7_least_28 (by first | exact trivial | rfl) ⟨rfl, hc, hf1⟩
  · refine tr_bipush (v := -4) dX7_least_10 (by decide) ?_
    -- at 12: .ireturn
    refine tr_iret dX7_least_12 (by first | exact trivial | rfl) (po_same h (by rw [S_least, if_pos h3]))
end F4
