-- ===== FlapBoard: deeds =====
theorem CI.deeds {μ μ' : am_M} {σ : SG} {l : List Nat} (h : CI μ σ) (hs : sP (fun b => (10 ≤ b ∧ b < 15) ∨ b = 25 ∨ b = 26) μ μ') (hb : BR μ' 10 (repM l (sS σ))) (hd : DR μ' 25 l) : CI μ' (gL σ l) := by
  obtain ⟨h1, h2, h3, h4, h5, h6, h7, h8, h9, h10, h11⟩ := h
  have hn : ∀ b, ¬ ((10 ≤ b ∧ b < 15) ∨ b = 25 ∨ b = 26) → μ'.1 b = μ.1 b ∧ μ'.2 b = μ.2 b := hs
  refine ⟨fun r hr => (h1 r hr).kept (hn _ (by omega)).1 (hn _ (by omega)).1, fun t ht => (h2 t ht).kept (hn _ (by omega)).1 (hn _ (by omega)).1, h3.keep (fun b b1 b2 => (hn b (by omega)).1), hb, hd, fun k hk => (h6 k hk).kept (hn _ (by omega)).1 (hn _ (by omega)).1, ?_, ?_, fun f hf => ?_, ?_, ?_⟩
  · rw [(hn 2 (by omega)).1]; exact h7
  · rw [(hn 2 (by omega)).1]; exact h8
  · rw [(hn 72 (by omega)).1]; exact h9 f hf
  · rw [(hn 71 (by omega)).2]; exact h10
  · rw [(hn 71 (by omega)).2]; exact h11
theorem CI.keepk {μ μ' : am_M} {σ : SG} {k : Nat} {o : Option (List Nat)} (h : CI μ σ) (hs : sP (fun b => b = 93 + 2 * k ∨ b = 94 + 2 * k) μ μ') (hk : k < 3) (hx : KR μ' (93 + 2 * k) o) : CI μ' (gK σ k o) := by
  obtain ⟨h1, h2, h3, h4, h5, h6, h7, h8, h9, h10, h11⟩ := h
  have hn : ∀ b, ¬ (b = 93 + 2 * k ∨ b = 94 + 2 * k) → μ'.1 b = μ.1 b ∧ μ'.2 b = μ.2 b := hs
  refine ⟨fun r hr => (h1 r hr).kept (hn _ (by omega)).1 (hn _ (by omega)).1, fun t ht => (h2 t ht).kept (hn _ (by omega)).1 (hn _ (by omega)).1, h3.keep (fun b b1 b2 => (hn b (by omega)).1), h4.keep (fun b b1 b2 => (hn b (by omega)).1), h5.kept (hn _ (by omega)).1 (hn _ (by omega)).1, fun q hq => ?_, ?_, ?_, fun f hf => ?_, ?_, ?_⟩
  · by_cases e : q = k
    · subst e
      show KR μ' _ (if q = q then o else _)
      rw [if_pos rfl]; exact hx
    · show KR μ' _ (if q = k then o else sK σ q)
      rw [if_neg e]
      exact (h6 q hq).kept (hn _ (by omega)).1 (hn _ (by omega)).1
  · rw [(hn 2 (by omega)).1]; exact h7
  · rw [(hn 2 (by omega)).1]; exact h8
  · rw [(hn 72 (by omega)).1]; exact h9 f hf
  · rw [(hn 71 (by omega)).2]; exact h10
  · rw [(hn 71 (by omega)).2]; exact h11
theorem doM_1 {c : NF} {dd : Nat} (h : wfc c) (hd : dOK (c 18) dd) : doM dd c 1 ≤ c 1 + 1 := by
  have h1 := h.1
  unfold doM
  split
  · rw [goC_1]; exact Nat.le_refl _
  · split
    · rw [nu_n _ _ (by omega)]; omega
    · split
      · rw [nu_n _ _ (by omega)]; omega
      · split
        · rw [nu_n _ _ (by omega)]; omega
        · omega
theorem repM_1 : ∀ (l : List Nat) (c : NF), wfc c → (∀ dd ∈ l, dOK (c 18) dd) → repM l c 1 ≤ c 1 + l.length
  | [], c, _, _ => Nat.le_refl _
  | dd :: l, c, h, hd => by
    have h1 := hd dd List.mem_cons_self
    have e := doM_18 h h1
    have := repM_1 l (doM dd c) (doM_wf h h1) (fun x hx => by rw [e]; exact hd x (List.mem_cons_of_mem _ hx))
    have := doM_1 h h1
    show repM l (doM dd c) 1 ≤ _
    rw [List.length_cons]
    omega
theorem WI.tick {σ : SG} (h : WI σ) : nowM σ 1 ≤ 40 := by
  have h1 := repM_1 _ _ h.1 h.2.2.1.2
  have h2 := h.2.1
  have h3 := h.2.2.1.1
  unfold nowM
  omega
def dfM (c : NF) (j : Nat) : Nat → Nat
  | 0 => c (19 + j)
  | 1 => c (4 + j)
  | 2 => c (11 + j)
  | 3 => c (26 + j)
  | 4 => bN (jmM c j)
  | 5 => bN (rdyM c j)
  | _ => nxM c j
def S_drum (σ : SG) (i w : Int32) : Int32 × SG := match ixV i (nowM σ 18), ixV w 7 with
  | some j, some q => (1, gA σ (nI (dfM (nowM σ) j q)))
  | _, _ => (-1, σ)
def S_tick (σ : SG) : Int32 × SG := if nowM σ 18 = 0 ∨ 99 ≤ nowM σ 1 then (-4, σ) else if 40 < (sL σ).length + 1 then (-2, σ) else (nI (goN (nowM σ)), gL σ (sL σ ++ [0]))
def S_aim (σ : SG) (i f : Int32) : Int32 × SG := match ixV i (nowM σ 18), ixV f 10 with
  | some j, some v => if nowM σ (11 + j) = v then (-4, σ) else if 40 < (sL σ).length + 1 then (-2, σ) else (nI (nowM σ (11 + j)), gL σ (sL σ ++ [256 * 1 + 16 * j + v]))
  | _, _ => (-1, σ)
def S_power (σ : SG) (n : Int32) : Int32 × SG := match ixV n 10 with
  | some v => if v = 0 then (-1, σ) else if nowM σ 18 = 0 ∨ nowM σ 0 = v then (-4, σ) else if 40 < (sL σ).length + 1 then (-2, σ) else (nI (nowM σ 0), gL σ (sL σ ++ [256 * 2 + 16 * 0 + v]))
  | none => (-1, σ)
def S_jam (σ : SG) (i : Int32) : Int32 × SG := match ixV i (nowM σ 18) with
  | some j => if 40 < (sL σ).length + 1 then (-2, σ) else (nI (onesM 7 (nowM σ 3 ^^^ 2 ^ j)), gL σ (sL σ ++ [256 * 3 + 16 * j + 0]))
  | none => (-1, σ)
def S_undo (σ : SG) (n : Int32) : Int32 × SG := match ixV n ((sL σ).length + 1) with
  | some q => (nI ((sL σ).length - q), gL σ ((sL σ).take q))
  | none => (-1, σ)
def S_keep (σ : SG) (k : Int32) : Int32 × SG := match ixV k 3 with
  | some q => if nowM σ 18 = 0 then (-4, σ) else (nI (sL σ).length, gK σ q (some (sL σ)))
  | none => (-1, σ)
def S_on (σ : SG) (k : Int32) : Int32 × SG := match ixV k 3 with
  | some q => match sK σ q with
    | none => (-3, gF σ 1)
    | some l => (nI l.length, gL σ l)
  | none => (-1, σ)
theorem DR_nil {μ : am_M} {l : List Nat} (h : DR μ 25 l) : True := trivial
theorem rdL_lt {n : Nat} {f : Nat → Int32} (hn : n ≤ 60) : ∀ (m a : Nat) (c : NF) (p : Nat), a ≤ n → (rdL n f m a c).1 = some p → p < 1000
  | 0, a, c, p, ha, h => by cases h; omega
  | m + 1, a, c, p, ha, h => by
    unfold rdL at h
    split at h
    · split at h
      · cases h; omega
      · split at h
        · cases h; omega
        · split at h
          · cases h; omega
          · split at h
            · cases h; omega
            · rename_i q1 q2
              exact rdL_lt hn m _ _ p (skS_le (by have := (Decidable.not_not.mp q2).1; omega)) h
    · split at h
      · cases h; omega
      · cases h
theorem rdT_lt {n : Nat} {f : Nat → Int32} {p : Nat} (hn : n ≤ 60) (h : (rdT n f).1 = some p) : p < 1000 := by
  have hs : skS n f 0 ≤ n := skS_le (by omega)
  unfold rdT at h
  split at h
  · rename_i q
    exact rdL_lt hn _ _ _ _ (skS_le (by omega)) h
  · cases h; omega
section F3
variable {X : Nat × (Nat → Int32)} {d : Nat} {μ : am_M} {σ : SG} {r x y z w : Int32} {j n : Nat} {f : Nat → Int32}
theorem c_again0 {c0 : NF} {l : List Nat} (hw : wfc c0) (hb : BR μ 5 c0) (hd : DR μ 25 l) : cp X (d + 5) kX7_doAgain [.ref 2, .int (nI 0)] μ (qv (fun μ' => same μ μ' [10, 11, 12, 13, 14, 25] ∧ BR μ' 10 c0 ∧ DR μ' 25 [])) := by
  refine cp_of ok_X7_doAgain (L := [.ref 2, .int (nI 0), .float 0]) rfl ?_
  refine tr_aload_n dX7_doAgain_0 rfl ?_
  refine tr_getR dX7_doAgain_1 fg_RX7_28 (by first | assumption | decide) (by first | assumption | rfl) rfl (by omega) ?_
  refine tr_aload_n dX7_doAgain_4 rfl ?_
  refine tr_getR dX7_doAgain_5 fg_RX7_24 (by first | assumption | decide) (by first | assumption | rfl) rfl (by omega) ?_
  -- at 8: .invokevirtual 142
  refine tr_Vv (As := [_]) dX7_doAgain_8 fm_RX7_142 rfl rfl (by first | assumption | decide) (by first | assumption | rfl) (Nat.le_of_ble_eq_true rfl) (c_become (d := d + 3) isB_10 isB_5 (by omega) hb hw) (fun μ1 ⟨e1, e2⟩ => ?_)
  have e1' := e1.wide (l' := [10, 11, 12, 13, 14, 25]) (by simp)
  refine tr_iconst (v := nI 0) dX7_doAgain_11 (by decide) ?_
  refine tr_istore_n_2 dX7_doAgain_12 (by decide) rfl ?_
  refine tr_iload_n dX7_doAgain_13 rfl ?_
  refine tr_iload_n dX7_doAgain_14 rfl ?_
  -- at 15: .if_icmp .ge 25
  refine tr_geN (tgt := 40) dX7_doAgain_15 (by decide) (by omega) (by omega) (fun h1 => ?_) (fun h1 => ?_)
  · refine tr_aload_n dX7_doAgain_40 rfl ?_
    refine tr_getR dX7_doAgain_41 fg_RX7_40 (by first | assumption | decide) (by first | assumption | rfl) rfl (by omega) ?_
    refine tr_iload_n dX7_doAgain_44 rfl ?_
    refine tr_putI dX7_doAgain_45 fp_RX7_80 (by first | assumption | decide) (by first | assumption | rfl) rfl ?_
    -- at 48: .return_
    refine tr_vret dX7_doAgain_48 (by first | exact trivial | rfl) ⟨e1'.put _ (by simp), e2.kept ((same.rf μ1 [25]).put (a := 25) _ (by simp)) (by decide) (by decide) (by decide) (by decide) (by decide), by simp, by rw [sI_same, pk_us]; rfl, fun q hq => by simp at hq⟩
  · omega
theorem l_board {m0 : am_M} {c : NF} (hw : wfc c) {w0 : Int32} : ∀ (m k : Nat) (μ : am_M), k + m = 3 → CI μ (σ.1, σ.2.1, c, [], fun q => if q < k then none else sK σ q, σ.2.2.2.2.2) → fr m0 μ → tw X d kX7_board (PO m0 (nI (c 18), gS σ c)) 51 [.ref 2, .int r, .int w0, .int (nI k)] [] μ
  | m, k, μ, hkm, h, hf => by
    refine tr_iload_n dX7_board_51 rfl ?_
    refine tr_iconst (v := nI 3) dX7_board_52 (by decide) ?_
    -- at 53: .if_icmp .ge 19
    refine tr_geN (tgt := 72) dX7_board_53 (by decide) (by omega) (by omega) (fun h1 => ?_) (fun h1 => ?_)
    · have r4 := h.2.2.2.1.1
      have r4' : μ.1 10 4 = nI (c 18) := r4
      clear r4
      refine tr_aload_n dX7_board_72 rfl ?_
      refine tr_getR dX7_board_73 fg_RX7_28 (by first | assumption | decide) (by first | assumption | rfl) rfl (by omega) ?_
      refine tr_getI dX7_board_76 fg_RX7_149 (by first | assumption | decide) (by first | assumption | rfl) rfl (by first | assumption | rfl) ?_
      -- at 79: .ireturn
      refine tr_iret dX7_board_79 (by first | exact trivial | rfl) ⟨rfl, ?_, hf⟩
      obtain ⟨g1, g2, g3, g4, g5, g6, g7⟩ := h
      refine ⟨g1, g2, g3, g4, g5, fun q hq => ?_, g7⟩
      have := g6 q hq
      rw [show sK (σ.1, σ.2.1, c, ([] : List Nat), (fun q => if q < k then none else sK σ q), σ.2.2.2.2.2) q = none from if_pos (by omega)] at this
      exact this
    · obtain ⟨⟨i0, i1⟩, s0, s1⟩ := isD_k h1
      refine tr_aload_n dX7_board_56 rfl ?_
      refine tr_getR dX7_board_57 fg_RX7_44 (by first | assumption | decide) (by first | assumption | rfl) rfl (by omega) ?_
      refine tr_iload_n dX7_board_60 rfl ?_
      -- at 61: .aaload
      refine tr_aald dX7_board_61 (by first | assumption | decide) (by first | assumption | rfl) (by decide) rfl (kept_at h1) (by decide) ?_
      refine tr_iconst (v := -1) dX7_board_62 (by decide) ?_
      refine tr_putI dX7_board_63 fp_RX7_80 (by first | assumption | decide) (by first | assumption | rfl) rfl ?_
      -- at 66: .iinc 3 1
      have hs := (sP.rf (fun b => b = 93 + 2 * k ∨ b = 94 + 2 * k) μ).put (a := 93 + 2 * k) (upd (μ.1 (93 + 2 * k)) 1 (-1)) (by omega)
      have hc := h.keepk (o := none) hs h1 (by show (sI μ (93 + 2 * k) (upd (μ.1 (93 + 2 * k)) 1 (-1))).1 (93 + 2 * k) 1 = -1; rw [sI_same, pk_us])
      have hf1 := hf.trans (hs.fr (fun b hb => by omega))
      generalize sI μ (93 + 2 * k) (upd (μ.1 (93 + 2 * k)) 1 (-1)) = μ1 at hc hf1 ⊢
      first | with_reducible refine tr_iincN_3 dX7_board_66 (by decide) rfl ?_ | refine tr_iinc_3 dX7_board_66 (by decide) rfl ?_
      refine tr_goto (tgt := 51) dX7_board_69 (by decide) ?_
      -- at 51: .iload_n 3
      refine l_board hw (m - 1) (k + 1) μ1 (by omega) ?_ hf1
      have e : gK (σ.1, σ.2.1, c, ([] : List Nat), (fun q => if q < k then none else sK σ q), σ.2.2.2.2.2) k none = (σ.1, σ.2.1, c, [], fun q => if q < k + 1 then none else sK σ q, σ.2.2.2.2.2) := by
        unfold gK
        refine congrArg (fun z => (σ.1, σ.2.1, c, ([] : List Nat), z, σ.2.2.2.2.2)) (funext fun q => ?_)
        by_cases e1 : q = k
        · rw [if_pos e1, if_pos (by omega)]
        · rw [if_neg e1]
          show (if q < k then none else sK σ q) = _
          by_cases e2 : q < k
          · rw [if_pos e2, if_pos (by omega)]
          · rw [if_neg e2, if_neg (by omega)]
      rw [← e]
      exact hc
  termination_by m => m
theorem f_board (h : CI μ σ) : cp X (d + 7) kX7_board [.ref 2, .int r] μ (PO μ (S_board σ r)) := by
  refine cp_of ok_X7_board (L := [.ref 2, .int r, .float 0, .float 0]) rfl ?_
  refine tr_aload_n dX7_board_0 rfl ?_
  refine tr_iload_n dX7_board_1 rfl ?_
  -- at 2: .invokevirtual 128
  cases hr : ixV r 4 with
  | none =>
    refine tr_Vi (As := [_]) dX7_board_2 fm_RX7_128 rfl rfl (by first | assumption | decide) (by first | assumption | rfl) (Nat.le_of_ble_eq_true rfl) (c_textRef0 (d := d + 4) hr) (fun v μ1 ⟨e1, e2⟩ => ?_)
    subst μ1; subst v
    refine tr_istore_n_2 dX7_board_5 (by decide) rfl ?_
    refine tr_iload_n dX7_board_6 rfl ?_
    -- at 7: .ifCond .eq 5
    refine tr_if_eq (tgt := 12) dX7_board_7 (by decide) (fun h1 => ?_) (fun h1 => ?_)
    · exact absurd h1 (by decide)
    · refine tr_iload_n dX7_board_10 rfl ?_
      -- at 11: .ireturn
      refine tr_iret dX7_board_11 (by first | exact trivial | rfl) (po_same h (by rw [S_board, hr]))
  | some j =>
    obtain ⟨rfl, hj⟩ := ixV_some (by omega) hr
    cases ho : sT σ j with
    | none =>
      refine tr_Vi (As := [_]) dX7_board_2 fm_RX7_128 rfl rfl (by first | assumption | decide) (by first | assumption | rfl) (Nat.le_of_ble_eq_true rfl) (c_textRef1 (d := d + 4) h hj ho) (fun v μ1 ⟨e1, e2, e3⟩ => ?_)
      subst v
      refine tr_istore_n_2 dX7_board_5 (by decide) rfl ?_
      refine tr_iload_n dX7_board_6 rfl ?_
      -- at 7: .ifCond .eq 5
      refine tr_if_eq (tgt := 12) dX7_board_7 (by decide) (fun h1 => ?_) (fun h1 => ?_)
      · exact absurd h1 m3_ne
      · refine tr_iload_n dX7_board_10 rfl ?_
        -- at 11: .ireturn
        refine tr_iret dX7_board_11 (by first | exact trivial | rfl) ?_
        have e : S_board σ (nI j) = (-3, gF σ 1) := by simp only [S_board, hr, ho]
        rw [e]
        exact ⟨rfl, e2, e3⟩
    | some w =>
      obtain ⟨n, f⟩ := w
      have hX := h.2.1 j hj
      rw [ho] at hX
      refine tr_Vi (As := [_]) dX7_board_2 fm_RX7_128 rfl rfl (by first | assumption | decide) (by first | assumption | rfl) (Nat.le_of_ble_eq_true rfl) (c_textRef2 (d := d + 4) h hj ho) (fun v μ1 ⟨e1, e2⟩ => ?_)
      subst μ1; subst v
      refine tr_istore_n_2 dX7_board_5 (by decide) rfl ?_
      refine tr_iload_n dX7_board_6 rfl ?_
      -- at 7: .ifCond .eq 5
      refine tr_if0N (tgt := 12) dX7_board_7 (by decide) (by omega) (fun h1 => ?_) (fun h1 => ?_)
      · refine tr_aload_n dX7_board_12 rfl ?_
        refine tr_getR dX7_board_13 fg_RX7_17 (by first | assumption | decide) (by first | assumption | rfl) rfl (by omega) ?_
        refine tr_iload_n dX7_board_16 rfl ?_
        -- at 17: .aaload
        refine tr_aald dX7_board_17 (by first | assumption | decide) (by first | assumption | rfl) (by decide) rfl (text_at hj) (by decide) ?_
        refine tr_aload_n dX7_board_18 rfl ?_
        refine tr_getR dX7_board_19 fg_RX7_31 (by first | assumption | decide) (by first | assumption | rfl) rfl (by omega) ?_
        -- at 22: .invokestatic 136
        refine tr_Si (As := [_, _]) dX7_board_22 fm_RX7_136 rfl rfl (Nat.le_of_ble_eq_true rfl) (c_read (d := d + 3) (isT_t hj) isB_15 (by omega) hX) (fun v μ1 ⟨e1, e2, e3⟩ => ?_)
        have hs := sP.of (P := scr) e1 (fun b hb => by simp at hb; unfold scr; omega)
        have hc1 := h.scr hs
        have hf1 := hs.fr (fun b hb => by unfold scr at hb; omega)
        subst v
        refine tr_bipush (v := -9) dX7_board_25 (by decide) ?_
        -- at 27: .if_icmp .eq 6
        cases hf : (rdT n f).1 with
        | some p =>
          have e : S_board σ (nI j) = (-4, σ) := by simp only [S_board, hr, ho, hf]
          rw [e]
          refine tr_icmp_eq (tgt := 33) dX7_board_27 (by decide) (fun h2 => ?_) (fun h2 => ?_)
          · have hp : p < 1000 := rdT_lt hX.2.1 hf
            exact absurd h2 (nI_m9 hp)
          · refine tr_bipush (v := -4) dX7_board_30 (by decide) ?_
            -- at 32: .ireturn
            refine tr_iret dX7_board_32 (by first | exact trivial | rfl) ⟨rfl, hc1, hf1⟩
        | none =>
          have e : S_board σ (nI j) = (nI ((rdT n f).2 18), gS σ (rdT n f).2) := by simp only [S_board, hr, ho, hf]
          rw [e]
          have hr1 := e3 hf
          have hw := rdT_wf n f
          refine tr_icmp_eq (tgt := 33) dX7_board_27 (by decide) (fun h2 => ?_) (fun h2 => ?_)
          · refine tr_aload_n dX7_board_33 rfl ?_
            refine tr_getR dX7_board_34 fg_RX7_24 (by first | assumption | decide) (by first | assumption | rfl) rfl (by omega) ?_
            refine tr_aload_n dX7_board_37 rfl ?_
            refine tr_getR dX7_board_38 fg_RX7_31 (by first | assumption | decide) (by first | assumption | rfl) rfl (by omega) ?_
            -- at 41: .invokevirtual 142
            refine tr_Vv (As := [_]) dX7_board_41 fm_RX7_142 rfl rfl (by first | assumption | decide) (by first | assumption | rfl) (Nat.le_of_ble_eq_true rfl) (c_become (d := d + 5) isB_5 isB_15 (by omega) hr1 hw) (fun μ2 ⟨g1, g2⟩ => ?_)
            refine tr_aload_n dX7_board_44 rfl ?_
            refine tr_iconst (v := nI 0) dX7_board_45 (by decide) ?_
            -- at 46: .invokevirtual 146
            have hd2 : DR μ2 25 (sL σ) := hc1.2.2.2.2.1.kept (g1.1 25 (by decide)) (g1.1 26 (by decide))
            refine tr_Vv (As := [_]) dX7_board_46 fm_RX7_146 rfl rfl (by first | assumption | decide) (by first | assumption | rfl) (Nat.le_of_ble_eq_true rfl) (c_again0 (d := d + 1) hw g2 hd2) (fun μ3 ⟨k1, k2, k3⟩ => ?_)
            have hst := sP.of (P := fun b => (5 ≤ b ∧ b < 15) ∨ b = 25) (g1.wide (l' := [5, 6, 7, 8, 9, 10, 11, 12, 13, 14, 25]) (by simp)) (fun b hb => by simp at hb; omega)
            have hst2 := hst.trans (sP.of (P := fun b => (5 ≤ b ∧ b < 15) ∨ b = 25) k1 (fun b hb => by simp at hb; omega))
            have hfr := hf1.trans (hst2.fr (fun b hb => by omega))
            have hn : ∀ b, ¬ ((5 ≤ b ∧ b < 15) ∨ b = 25) → μ3.1 b = μ1.1 b ∧ μ3.2 b = μ1.2 b := hst2
            refine tr_iconst (v := nI 0) dX7_board_49 (by decide) ?_
            refine tr_istore_n_3 dX7_board_50 (by decide) rfl ?_
            -- at 51: .iload_n 3
            refine l_board hw 3 0 μ3 (by omega) ?_ hfr
            obtain ⟨h1, h2, h3, h4, h5, h6, h7, h8, h9, h10, h11⟩ := hc1
            refine ⟨fun r hr => (h1 r hr).kept (hn _ (by omega)).1 (hn _ (by omega)).1, fun t ht => (h2 t ht).kept (hn _ (by omega)).1 (hn _ (by omega)).1, g2.keep (fun b b1 b2 => k1.1 b (by simp; omega)), k2, k3, fun k hk => ?_, ?_, ?_, fun f hf => ?_, ?_, ?_⟩
            · have := (h6 k hk).kept (μ' := μ3) (hn _ (by omega)).1 (hn _ (by omega)).1
              exact this
            · rw [(hn 2 (by omega)).1]; exact h7
            · rw [(hn 2 (by omega)).1]; exact h8
            · rw [(hn 72 (by omega)).1]; exact h9 f hf
            · rw [(hn 71 (by omega)).2]; exact h10
            · rw [(hn 71 (by omega)).2]; exact h11
          · exact absurd rfl h2
      · omega
theorem c_carryOut {a q v : Nat} (h : CI μ σ) (hW : WI σ) (ha : a < 5) (hq : q < 16) (hv : v < 16) (hok : dOK (nowM σ 18) (256 * a + 16 * q + v)) (hl : (sL σ).length < 40) : cp X (d + 5) kX7_carryOut [.ref 2, .int (nI a), .int (nI q), .int (nI v)] μ (qv (fun μ' => CI μ' (gL σ (sL σ ++ [256 * a + 16 * q + v])) ∧ fr μ μ')) := by
  refine cp_of ok_X7_carryOut (L := [.ref 2, .int (nI a), .int (nI q), .int (nI v), .float 0]) rfl ?_
  refine tr_iload_n dX7_carryOut_0 rfl ?_
  refine tr_iload_n dX7_carryOut_1 rfl ?_
  refine tr_iload_n dX7_carryOut_2 rfl ?_
  -- at 3: .invokestatic 349
  refine tr_Si (As := [_, _, _]) dX7_carryOut_3 fm_RX7_349 rfl rfl (Nat.le_of_ble_eq_true rfl) (c_packed (d := d + 3) ha hq hv) (fun v μ1 ⟨e1, e2⟩ => ?_)
  subst μ1; subst v
  refine tr_istore_4 dX7_carryOut_6 (by decide) rfl ?_
  refine tr_aload_n dX7_carryOut_8 rfl ?_
  refine tr_getR dX7_carryOut_9 fg_RX7_40 (by first | assumption | decide) (by first | assumption | rfl) rfl (by omega) ?_
  refine tr_iload dX7_carryOut_12 rfl ?_
  -- at 14: .invokevirtual 353
  refine tr_Vv (As := [_]) dX7_carryOut_14 fm_RX7_353 rfl rfl (by first | assumption | decide) (by first | assumption | rfl) (Nat.le_of_ble_eq_true rfl) (c_add (d := d + 3) isD_25 h.2.2.2.2.1 hl) (fun μ1 ⟨e1, e2⟩ => ?_)
  refine tr_aload_n dX7_carryOut_17 rfl ?_
  refine tr_getR dX7_carryOut_18 fg_RX7_28 (by first | assumption | decide) (by first | assumption | rfl) rfl (by omega) ?_
  refine tr_iload dX7_carryOut_21 rfl ?_
  -- at 23: .invokevirtual 356
  refine tr_Vv (As := [_]) dX7_carryOut_23 fm_RX7_356 rfl rfl (by first | assumption | decide) (by first | assumption | rfl) (Nat.le_of_ble_eq_true rfl) (c_carry (d := d) isB_10 (h.2.2.2.1.kept e1 (by decide) (by decide) (by decide) (by decide) (by decide)) hW.now hok) (fun μ2 ⟨e3, e4⟩ => ?_)
  have s1 := sP.of (P := fun b => (10 ≤ b ∧ b < 15) ∨ b = 25 ∨ b = 26) e1 (fun b hb => by simp at hb; omega)
  have s2 := sP.of (P := fun b => (10 ≤ b ∧ b < 15) ∨ b = 25 ∨ b = 26) e3 (fun b hb => by simp at hb; omega)
  have s3 := s1.trans s2
  refine tr_vret dX7_carryOut_26 (by first | exact trivial | rfl) ⟨h.deeds s3 (by rw [repM_app]; exact e4) (e2.kept (e3.1 25 (by decide)) (e3.1 26 (by decide))), s3.fr (fun b hb => by omega)⟩
theorem f_tick (h : CI μ σ) (hW : WI σ) : cp X (d + 6) kX7_tick [.ref 2] μ (PO μ (S_tick σ)) := by
  have r4 := h.2.2.2.1.1
  have r6 := h.2.2.2.1.2.2.1
  have r7 := h.2.2.2.1.2.2.2.1
  have hw1 := hW.now.1
  have hw2 := hW.tick
  refine cp_of ok_X7_tick (L := [.ref 2, .float 0]) rfl ?_
  refine tr_aload_n dX7_tick_0 rfl ?_
  refine tr_getR dX7_tick_1 fg_RX7_28 (by first | assumption | decide) (by first | assumption | rfl) rfl (by omega) ?_
  refine tr_getI dX7_tick_4 fg_RX7_149 (by first | assumption | decide) (by first | assumption | rfl) rfl (by first | assumption | rfl) ?_
  -- at 7: .ifCond .eq 15
  refine tr_if0N (tgt := 22) dX7_tick_7 (by decide) (by omega) (fun h1 => ?_) (fun h1 => ?_)
  · refine tr_bipush (v := -4) dX7_tick_22 (by decide) ?_
    -- at 24: .ireturn
    refine tr_iret dX7_tick_24 (by first | exact trivial | rfl) (po_same h (by rw [S_tick, if_pos (Or.inl h1)]))
  · refine tr_aload_n dX7_tick_10 rfl ?_
    refine tr_getR dX7_tick_11 fg_RX7_28 (by first | assumption | decide) (by first | assumption | rfl) rfl (by omega) ?_
    refine tr_getI dX7_tick_14 fg_RX7_184 (by first | assumption | decide) (by first | assumption | rfl) rfl (by first | assumption | rfl) ?_
    refine tr_bipush (v := nI 99) dX7_tick_17 (by decide) ?_
    -- at 19: .if_icmp .lt 6
    refine tr_ltN (tgt := 25) dX7_tick_19 (by decide) (by omega) (by omega) (fun h2 => ?_) (fun h2 => ?_)
    · refine tr_aload_n dX7_tick_25 rfl ?_
      refine tr_getR dX7_tick_26 fg_RX7_40 (by first | assumption | decide) (by first | assumption | rfl) rfl (by omega) ?_
      refine tr_iconst (v := nI 1) dX7_tick_29 (by decide) ?_
      -- at 30: .invokevirtual 187
      refine tr_Vi (As := [_]) dX7_tick_30 fm_RX7_187 rfl rfl (by first | assumption | decide) (by first | assumption | rfl) (Nat.le_of_ble_eq_true rfl) (c_isFull (d := d + 4) (n := 1) (by omega) isD_25 h.2.2.2.2.1) (fun v μ1 ⟨e1, e2⟩ => ?_)
      subst μ1; subst v
      refine tr_ifb0 (tgt := 39) dX7_tick_33 (by decide) (fun h3 => ?_) (fun h3 => ?_)
      · have h3' := of_decide_eq_false h3
        have e : S_tick σ = (nI (goN (nowM σ)), gL σ (sL σ ++ [0])) := by rw [S_tick, if_neg (by omega), if_neg h3']
        rw [e]
        refine tr_aload_n dX7_tick_39 rfl ?_
        refine tr_getR dX7_tick_40 fg_RX7_28 (by first | assumption | decide) (by first | assumption | rfl) rfl (by omega) ?_
        refine tr_getI dX7_tick_43 fg_RX7_190 (by first | assumption | decide) (by first | assumption | rfl) rfl (by first | assumption | rfl) ?_
        refine tr_istore_n_1 dX7_tick_46 (by decide) rfl ?_
        refine tr_aload_n dX7_tick_47 rfl ?_
        refine tr_iconst (v := nI 0) dX7_tick_48 (by decide) ?_
        refine tr_iconst (v := nI 0) dX7_tick_49 (by decide) ?_
        refine tr_iconst (v := nI 0) dX7_tick_50 (by decide) ?_
        -- at 51: .invokevirtual 193
        refine tr_Vv (As := [_, _, _]) dX7_tick_51 fm_RX7_193 rfl rfl (by first | assumption | decide) (by first | assumption | rfl) (Nat.le_of_ble_eq_true rfl) (c_carryOut (d := d) (a := 0) (q := 0) (v := 0) h hW (by omega) (by omega) (by omega) ⟨by omega, by omega, by omega, by omega⟩ (by omega)) (fun μ1 ⟨e1, e2⟩ => ?_)
        have e3 : nowM (gL σ (sL σ ++ [0])) = goC (nowM σ) := by
          show repM (sL σ ++ [0]) (sS σ) = _
          rw [repM_app]
          rfl
        have k7 : μ1.1 10 7 = nI (nowM σ 2 + goN (nowM σ)) := by
          have := e1.2.2.2.1.2.2.2.1
          rw [show nowM (gL σ (sL σ ++ [256 * 0 + 16 * 0 + 0])) = goC (nowM σ) from e3, goC_2] at this
          exact this
        refine tr_aload_n dX7_tick_54 rfl ?_
        refine tr_getR dX7_tick_55 fg_RX7_28 (by first | assumption | decide) (by first | assumption | rfl) rfl (by omega) ?_
        refine tr_getI dX7_tick_58 fg_RX7_190 (by first | assumption | decide) (by first | assumption | rfl) rfl (by first | assumption | rfl) ?_
        refine tr_iload_n dX7_tick_61 rfl ?_
        first | with_reducible refine tr_isubN dX7_tick_62 (by omega) ?_ | refine tr_isub dX7_tick_62 ?_
        -- at 63: .ireturn
        refine tr_iret dX7_tick_63 (by first | exact trivial | rfl) ⟨by congr 1; omega, e1, e2⟩
      · have h3' := of_decide_eq_true h3
        refine tr_bipush (v := -2) dX7_tick_36 (by decide) ?_
        -- at 38: .ireturn
        refine tr_iret dX7_tick_38 (by first | exact trivial | rfl) (po_same h (by rw [S_tick, if_neg (by omega), if_pos h3']))
    · omega
theorem f_aim (h : CI μ σ) (hW : WI σ) : cp X (d + 6) kX7_aim [.ref 2, .int r, .int x] μ (PO μ (S_aim σ r x)) := by
  have hw := hW.now
  have hw1 := hw.1
  refine cp_of ok_X7_aim (L := [.ref 2, .int r, .int x, .float 0]) rfl ?_
  refine tr_aload_n dX7_aim_0 rfl ?_
  refine tr_iload_n dX7_aim_1 rfl ?_
  -- at 2: .invokevirtual 152
  refine tr_Vi (As := [_]) dX7_aim_2 fm_RX7_152 rfl rfl (by first | assumption | decide) (by first | assumption | rfl) (Nat.le_of_ble_eq_true rfl) (c_isDrum (d := d + 4) h) (fun v μ1 ⟨e1, e2⟩ => ?_)
  subst μ1; subst v
  cases hr : ixV r (nowM σ 18) with
  | none =>
    refine tr_ifb0 (tgt := 18) dX7_aim_5 (by decide) (fun h1 => ?_) (fun h1 => ?_)
    · refine tr_iconst (v := -1) dX7_aim_18 (by decide) ?_
      -- at 19: .ireturn
      refine tr_iret dX7_aim_19 (by first | exact trivial | rfl) (po_same h (by simp only [S_aim, hr]))
    · cases h1
  | some j =>
    obtain ⟨rfl, hj⟩ := ixV_some (by omega) hr
    obtain ⟨q1, q2, q3, q4⟩ := h.2.2.2.1.2.2.2.2.2 j hj
    obtain ⟨w1, w2, w3, w4⟩ := hw.2.2.2 j (by omega)
    refine tr_ifb0 (tgt := 18) dX7_aim_5 (by decide) (fun h1 => ?_) (fun h1 => ?_)
    · cases h1
    · cases hx : ixV x 10 with
      | none =>
        refine tr_iload_n dX7_aim_8 rfl ?_
        -- at 9: .ifCond .lt 9
        refine tr_if_lt (tgt := 18) dX7_aim_9 (by decide) (fun h2 => ?_) (fun h2 => ?_)
        · refine tr_iconst (v := -1) dX7_aim_18 (by decide) ?_
          -- at 19: .ireturn
          refine tr_iret dX7_aim_19 (by first | exact trivial | rfl) (po_same h (by simp only [S_aim, hr, hx]))
        · refine tr_iload_n dX7_aim_12 rfl ?_
          refine tr_bipush (v := nI 10) dX7_aim_13 (by decide) ?_
          -- at 15: .if_icmp .lt 5
          refine tr_icmp_lt (tgt := 20) dX7_aim_15 (by decide) (fun h3 => ?_) (fun h3 => ?_)
          · exact absurd ⟨Int32.not_lt.mp h2, h3⟩ (ixV_none hx)
          · refine tr_iconst (v := -1) dX7_aim_18 (by decide) ?_
            -- at 19: .ireturn
            refine tr_iret dX7_aim_19 (by first | exact trivial | rfl) (po_same h (by simp only [S_aim, hr, hx]))
      | some v =>
        obtain ⟨rfl, hv⟩ := ixV_some (by omega) hx
        refine tr_iload_n dX7_aim_8 rfl ?_
        -- at 9: .ifCond .lt 9
        refine tr_if_lt (tgt := 18) dX7_aim_9 (by decide) (fun h2 => ?_) (fun h2 => ?_)
        · exact absurd h2 (nI_pos (by omega))
        · refine tr_iload_n dX7_aim_12 rfl ?_
          refine tr_bipush (v := nI 10) dX7_aim_13 (by decide) ?_
          -- at 15: .if_icmp .lt 5
          refine tr_ltN (tgt := 20) dX7_aim_15 (by decide) (by omega) (by omega) (fun h3 => ?_) (fun h3 => ?_)
          · refine tr_aload_n dX7_aim_20 rfl ?_
            refine tr_getR dX7_aim_21 fg_RX7_28 (by first | assumption | decide) (by first | assumption | rfl) rfl (by omega) ?_
            refine tr_getR dX7_aim_24 fg_RX7_173 (by first | assumption | decide) (by first | assumption | rfl) rfl (by omega) ?_
            refine tr_iload_n dX7_aim_27 rfl ?_
            refine tr_iald dX7_aim_28 (by first | assumption | decide) (by first | assumption | rfl) rfl (by omega) (by omega) (by first | assumption | rfl) ?_
            refine tr_istore_n_3 dX7_aim_29 (by decide) rfl ?_
            refine tr_iload_n dX7_aim_30 rfl ?_
            refine tr_iload_n dX7_aim_31 rfl ?_
            -- at 32: .if_icmp .ne 6
            refine tr_neN (tgt := 38) dX7_aim_32 (by decide) (by omega) (by omega) (fun h4 => ?_) (fun h4 => ?_)
            · refine tr_aload_n dX7_aim_38 rfl ?_
              refine tr_getR dX7_aim_39 fg_RX7_40 (by first | assumption | decide) (by first | assumption | rfl) rfl (by omega) ?_
              refine tr_iconst (v := nI 1) dX7_aim_42 (by decide) ?_
              -- at 43: .invokevirtual 187
              refine tr_Vi (As := [_]) dX7_aim_43 fm_RX7_187 rfl rfl (by first | assumption | decide) (by first | assumption | rfl) (Nat.le_of_ble_eq_true rfl) (c_isFull (d := d + 4) (n := 1) (by omega) isD_25 h.2.2.2.2.1) (fun v μ1 ⟨e1, e2⟩ => ?_)
              subst μ1; subst v
              refine tr_ifb0 (tgt := 52) dX7_aim_46 (by decide) (fun h5 => ?_) (fun h5 => ?_)
              · have h5' := of_decide_eq_false h5
                have e : S_aim σ (nI j) (nI v) = (nI (nowM σ (11 + j)), gL σ (sL σ ++ [256 * 1 + 16 * j + v])) := by
                  simp only [S_aim, hr, hx]
                  rw [if_neg h4, if_neg h5']
                rw [e]
                refine tr_aload_n dX7_aim_52 rfl ?_
                refine tr_iconst (v := nI 1) dX7_aim_53 (by decide) ?_
                refine tr_iload_n dX7_aim_54 rfl ?_
                refine tr_iload_n dX7_aim_55 rfl ?_
                -- at 56: .invokevirtual 193
                refine tr_Vv (As := [_, _, _]) dX7_aim_56 fm_RX7_193 rfl rfl (by first | assumption | decide) (by first | assumption | rfl) (Nat.le_of_ble_eq_true rfl) (c_carryOut (d := d) (a := 1) (q := j) (v := v) h hW (by omega) (by omega) (by omega) ⟨by omega, by omega, by omega, by omega⟩ (by omega)) (fun μ1 ⟨e1, e2⟩ => ?_)
                refine tr_iload_n dX7_aim_59 rfl ?_
                -- at 60: .ireturn
                refine tr_iret dX7_aim_60 (by first | exact trivial | rfl) ⟨rfl, e1, e2⟩
              · have h5' := of_decide_eq_true h5
                refine tr_bipush (v := -2) dX7_aim_49 (by decide) ?_
                -- at 51: .ireturn
                refine tr_iret dX7_aim_51 (by first | exact trivial | rfl) (po_same h (by simp only [S_aim, hr, hx]; rw [if_neg h4, if_pos h5']))
            · refine tr_bipush (v := -4) dX7_aim_35 (by decide) ?_
              -- at 37: .ireturn
              refine tr_iret dX7_aim_37 (by first | exact trivial | rfl) (po_same h (by simp only [S_aim, hr, hx]; rw [if_pos h4]))
          · omega
theorem f_power (h : CI μ σ) (hW : WI σ) : cp X (d + 6) kX7_power [.ref 2, .int x] μ (PO μ (S_power σ x)) := by
  have hw := hW.now
  have hw1 := hw.1
  have hw0 := hw.2.1
  have r4 := h.2.2.2.1.1
  have r5 := h.2.2.2.1.2.1
  refine cp_of ok_X7_power (L := [.ref 2, .int x, .float 0]) rfl ?_
  cases hx : ixV x 10 with
  | none =>
    refine tr_iload_n dX7_power_0 rfl ?_
    refine tr_iconst (v := nI 1) dX7_power_1 (by decide) ?_
    -- at 2: .if_icmp .lt 9
    refine tr_icmp_lt (tgt := 11) dX7_power_2 (by decide) (fun h1 => ?_) (fun h1 => ?_)
    · refine tr_iconst (v := -1) dX7_power_11 (by decide) ?_
      -- at 12: .ireturn
      refine tr_iret dX7_power_12 (by first | exact trivial | rfl) (po_same h (by simp only [S_power, hx]))
    · refine tr_iload_n dX7_power_5 rfl ?_
      refine tr_bipush (v := nI 9) dX7_power_6 (by decide) ?_
      -- at 8: .if_icmp .le 5
      refine tr_icmp_le (tgt := 13) dX7_power_8 (by decide) (fun h2 => ?_) (fun h2 => ?_)
      · exact absurd ⟨Int32.le_of_lt (Int32.lt_of_lt_of_le (by decide) (Int32.not_lt.mp h1)), Int32.lt_of_le_of_lt h2 (by decide)⟩ (ixV_none hx)
      · refine tr_iconst (v := -1) dX7_power_11 (by decide) ?_
        -- at 12: .ireturn
        refine tr_iret dX7_power_12 (by first | exact trivial | rfl) (po_same h (by simp only [S_power, hx]))
  | some v =>
    obtain ⟨rfl, hv⟩ := ixV_some (by omega) hx
    refine tr_iload_n dX7_power_0 rfl ?_
    refine tr_iconst (v := nI 1) dX7_power_1 (by decide) ?_
    -- at 2: .if_icmp .lt 9
    refine tr_ltN (tgt := 11) dX7_power_2 (by decide) (by omega) (by omega) (fun h1 => ?_) (fun h1 => ?_)
    · refine tr_iconst (v := -1) dX7_power_11 (by decide) ?_
      -- at 12: .ireturn
      refine tr_iret dX7_power_12 (by first | exact trivial | rfl) (po_same h (by simp only [S_power, hx]; rw [if_pos (by omega)]))
    · refine tr_iload_n dX7_power_5 rfl ?_
      refine tr_bipush (v := nI 9) dX7_power_6 (by decide) ?_
      -- at 8: .if_icmp .le 5
      refine tr_leN (tgt := 13) dX7_power_8 (by decide) (by omega) (by omega) (fun h2 => ?_) (fun h2 => ?_)
      · refine tr_aload_n dX7_power_13 rfl ?_
        refine tr_getR dX7_power_14 fg_RX7_28 (by first | assumption | decide) (by first | assumption | rfl) rfl (by omega) ?_
        refine tr_getI dX7_power_17 fg_RX7_197 (by first | assumption | decide) (by first | assumption | rfl) rfl (by first | assumption | rfl) ?_
        refine tr_istore_n_2 dX7_power_20 (by decide) rfl ?_
        refine tr_aload_n dX7_power_21 rfl ?_
        refine tr_getR dX7_power_22 fg_RX7_28 (by first | assumption | decide) (by first | assumption | rfl) rfl (by omega) ?_
        refine tr_getI dX7_power_25 fg_RX7_149 (by first | assumption | decide) (by first | assumption | rfl) rfl (by first | assumption | rfl) ?_
        -- at 28: .ifCond .eq 8
        refine tr_if0N (tgt := 36) dX7_power_28 (by decide) (by omega) (fun h3 => ?_) (fun h3 => ?_)
        · refine tr_bipush (v := -4) dX7_power_36 (by decide) ?_
          -- at 38: .ireturn
          refine tr_iret dX7_power_38 (by first | exact trivial | rfl) (po_same h (by simp only [S_power, hx]; rw [if_neg (by omega), if_pos (Or.inl h3)]))
        · refine tr_iload_n dX7_power_31 rfl ?_
          refine tr_iload_n dX7_power_32 rfl ?_
          -- at 33: .if_icmp .ne 6
          refine tr_neN (tgt := 39) dX7_power_33 (by decide) (by omega) (by omega) (fun h4 => ?_) (fun h4 => ?_)
          · refine tr_aload_n dX7_power_39 rfl ?_
            refine tr_getR dX7_power_40 fg_RX7_40 (by first | assumption | decide) (by first | assumption | rfl) rfl (by omega) ?_
            refine tr_iconst (v := nI 1) dX7_power_43 (by decide) ?_
            -- at 44: .invokevirtual 187
            refine tr_Vi (As := [_]) dX7_power_44 fm_RX7_187 rfl rfl (by first | assumption | decide) (by first | assumption | rfl) (Nat.le_of_ble_eq_true rfl) (c_isFull (d := d + 4) (n := 1) (by omega) isD_25 h.2.2.2.2.1) (fun v μ1 ⟨e1, e2⟩ => ?_)
            subst μ1; subst v
            refine tr_ifb0 (tgt := 53) dX7_power_47 (by decide) (fun h5 => ?_) (fun h5 => ?_)
            · have h5' := of_decide_eq_false h5
              have e : S_power σ (nI v) = (nI (nowM σ 0), gL σ (sL σ ++ [256 * 2 + 16 * 0 + v])) := by
                simp only [S_power, hx]
                rw [if_neg (by omega), if_neg (by omega), if_neg h5']
              rw [e]
              refine tr_aload_n dX7_power_53 rfl ?_
              refine tr_iconst (v := nI 2) dX7_power_54 (by decide) ?_
              refine tr_iconst (v := nI 0) dX7_power_55 (by decide) ?_
              refine tr_iload_n dX7_power_56 rfl ?_
              -- at 57: .invokevirtual 193
              refine tr_Vv (As := [_, _, _]) dX7_power_57 fm_RX7_193 rfl rfl (by first | assumption | decide) (by first | assumption | rfl) (Nat.le_of_ble_eq_true rfl) (c_carryOut (d := d) (a := 2) (q := 0) (v := v) h hW (by omega) (by omega) (by omega) ⟨by omega, by omega, by omega, by omega⟩ (by omega)) (fun μ1 ⟨e1, e2⟩ => ?_)
              refine tr_iload_n dX7_power_60 rfl ?_
              -- at 61: .ireturn
              refine tr_iret dX7_power_61 (by first | exact trivial | rfl) ⟨rfl, e1, e2⟩
            · have h5' := of_decide_eq_true h5
              refine tr_bipush (v := -2) dX7_power_50 (by decide) ?_
              -- at 52: .ireturn
              refine tr_iret dX7_power_52 (by first | exact trivial | rfl) (po_same h (by simp only [S_power, hx]; rw [if_neg (by omega), if_neg (by omega), if_pos h5']))
          · refine tr_bipush (v := -4) dX7_power_36 (by decide) ?_
            -- at 38: .ireturn
            refine tr_iret dX7_power_38 (by first | exact trivial | rfl) (po_same h (by simp only [S_power, hx]; rw [if_neg (by omega), if_pos (Or.inr h4)]))
      · omega
theorem f_jam (h : CI μ σ) (hW : WI σ) : cp X (d + 6) kX7_jam [.ref 2, .int r] μ (PO μ (S_jam σ r)) := by
  have hw := hW.now
  have hw1 := hw.1
  refine cp_of ok_X7_jam (L := [.ref 2, .int r]) rfl ?_
  refine tr_aload_n dX7_jam_0 rfl ?_
  refine tr_iload_n dX7_jam_1 rfl ?_
  -- at 2: .invokevirtual 152
  refine tr_Vi (As := [_]) dX7_jam_2 fm_RX7_152 rfl rfl (by first | assumption | decide) (by first | assumption | rfl) (Nat.le_of_ble_eq_true rfl) (c_isDrum (d := d + 4) h) (fun v μ1 ⟨e1, e2⟩ => ?_)
  subst μ1; subst v
  cases hr : ixV r (nowM σ 18) with
  | none =>
    refine tr_ifb1 (tgt := 10) dX7_jam_5 (by decide) (fun h1 => ?_) (fun h1 => ?_)
    · cases h1
    · refine tr_iconst (v := -1) dX7_jam_8 (by decide) ?_
      -- at 9: .ireturn
      refine tr_iret dX7_jam_9 (by first | exact trivial | rfl) (po_same h (by simp only [S_jam, hr]))
  | some j =>
    obtain ⟨rfl, hj⟩ := ixV_some (by omega) hr
    refine tr_ifb1 (tgt := 10) dX7_jam_5 (by decide) (fun h1 => ?_) (fun h1 => ?_)
    · refine tr_aload_n dX7_jam_10 rfl ?_
      refine tr_getR dX7_jam_11 fg_RX7_40 (by first | assumption | decide) (by first | assumption | rfl) rfl (by omega) ?_
      refine tr_iconst (v := nI 1) dX7_jam_14 (by decide) ?_
      -- at 15: .invokevirtual 187
      refine tr_Vi (As := [_]) dX7_jam_15 fm_RX7_187 rfl rfl (by first | assumption | decide) (by first | assumption | rfl) (Nat.le_of_ble_eq_true rfl) (c_isFull (d := d + 4) (n := 1) (by omega) isD_25 h.2.2.2.2.1) (fun v μ1 ⟨e1, e2⟩ => ?_)
      subst μ1; subst v
      refine tr_ifb0 (tgt := 24) dX7_jam_18 (by decide) (fun h5 => ?_) (fun h5 => ?_)
      · have h5' := of_decide_eq_false h5
        have e : S_jam σ (nI j) = (nI (onesM 7 (nowM σ 3 ^^^ 2 ^ j)), gL σ (sL σ ++ [256 * 3 + 16 * j + 0])) := by
          simp only [S_jam, hr]
          rw [if_neg h5']
        rw [e]
        refine tr_aload_n dX7_jam_24 rfl ?_
        refine tr_iconst (v := nI 3) dX7_jam_25 (by decide) ?_
        refine tr_iload_n dX7_jam_26 rfl ?_
        refine tr_iconst (v := nI 0) dX7_jam_27 (by decide) ?_
        -- at 28: .invokevirtual 193
        refine tr_Vv (As := [_, _, _]) dX7_jam_28 fm_RX7_193 rfl rfl (by first | assumption | decide) (by first | assumption | rfl) (Nat.le_of_ble_eq_true rfl) (c_carryOut (d := d) (a := 3) (q := j) (v := 0) h hW (by omega) (by omega) (by omega) ⟨by omega, by omega, by omega, fun _ => by omega⟩ (by omega)) (fun μ1 ⟨e1, e2⟩ => ?_)
        have e3 : nowM (gL σ (sL σ ++ [256 * 3 + 16 * j + 0])) = nu (nowM σ) 3 (nowM σ 3 ^^^ 2 ^ j) := by
          show repM (sL σ ++ [256 * 3 + 16 * j + 0]) (sS σ) = _
          rw [repM_app, doM, if_neg (by omega), if_neg (by omega), if_neg (by omega), if_pos (by omega), show (256 * 3 + 16 * j + 0) / 16 % 16 = j by omega]
          rfl
        have k8 : μ1.1 10 8 = nI (nowM σ 3 ^^^ 2 ^ j) := by
          have := e1.2.2.2.1.2.2.2.2.1
          rw [e3, nu_s] at this
          exact this
        have hlt : nowM σ 3 ^^^ 2 ^ j < 128 := Nat.lt_of_lt_of_le (xor_lt hw.2.2.1 hj) (Nat.pow_le_pow_right (by omega) hw1)
        refine tr_aload_n dX7_jam_31 rfl ?_
        refine tr_getR dX7_jam_32 fg_RX7_28 (by first | assumption | decide) (by first | assumption | rfl) rfl (by omega) ?_
        refine tr_getI dX7_jam_35 fg_RX7_200 (by first | assumption | decide) (by first | assumption | rfl) rfl (by first | assumption | rfl) ?_
        -- at 38: .invokestatic 203
        refine tr_Si (As := [_]) dX7_jam_38 fm_RX7_203 rfl rfl (Nat.le_of_ble_eq_true rfl) (c_bitCount (d := d + 4) (by omega)) (fun v μ2 ⟨g1, g2⟩ => ?_)
        subst μ2; subst v
        refine tr_iret dX7_jam_41 (by first | exact trivial | rfl) ⟨by rw [onesM_7 _ hlt], e1, e2⟩
      · have h5' := of_decide_eq_true h5
        refine tr_bipush (v := -2) dX7_jam_21 (by decide) ?_
        -- at 23: .ireturn
        refine tr_iret dX7_jam_23 (by first | exact trivial | rfl) (po_same h (by simp only [S_jam, hr]; rw [if_pos h5']))
    · cases h1
theorem f_undo (h : CI μ σ) (hW : WI σ) : cp X (d + 6) kX7_undo [.ref 2, .int r] μ (PO μ (S_undo σ r)) := by
  have r1 := h.2.2.2.2.1.2.1
  have hl := hW.2.2.1.1
  refine cp_of ok_X7_undo (L := [.ref 2, .int r, .float 0]) rfl ?_
  cases hr : ixV r ((sL σ).length + 1) with
  | none =>
    refine tr_iload_n dX7_undo_0 rfl ?_
    -- at 1: .ifCond .lt 14
    refine tr_if_lt (tgt := 15) dX7_undo_1 (by decide) (fun h1 => ?_) (fun h1 => ?_)
    · refine tr_iconst (v := -1) dX7_undo_15 (by decide) ?_
      -- at 16: .ireturn
      refine tr_iret dX7_undo_16 (by first | exact trivial | rfl) (po_same h (by simp only [S_undo, hr]))
    · refine tr_iload_n dX7_undo_4 rfl ?_
      refine tr_aload_n dX7_undo_5 rfl ?_
      refine tr_getR dX7_undo_6 fg_RX7_40 (by first | assumption | decide) (by first | assumption | rfl) rfl (by omega) ?_
      refine tr_getI dX7_undo_9 fg_RX7_80 (by first | assumption | decide) (by first | assumption | rfl) rfl (by first | assumption | rfl) ?_
      -- at 12: .if_icmp .le 5
      refine tr_icmp_le (tgt := 17) dX7_undo_12 (by decide) (fun h2 => ?_) (fun h2 => ?_)
      · obtain ⟨q, hq, rfl⟩ := nI_of h1
        have := (nI_leI hq (by omega)).mp h2
        rw [ixV_nI (by omega) (by omega)] at hr
        cases hr
      · refine tr_iconst (v := -1) dX7_undo_15 (by decide) ?_
        -- at 16: .ireturn
        refine tr_iret dX7_undo_16 (by first | exact trivial | rfl) (po_same h (by simp only [S_undo, hr]))
  | some q =>
    obtain ⟨rfl, hq⟩ := ixV_some (by omega) hr
    refine tr_iload_n dX7_undo_0 rfl ?_
    -- at 1: .ifCond .lt 14
    refine tr_if_lt (tgt := 15) dX7_undo_1 (by decide) (fun h1 => ?_) (fun h1 => ?_)
    · exact absurd h1 (nI_pos (by omega))
    · refine tr_iload_n dX7_undo_4 rfl ?_
      refine tr_aload_n dX7_undo_5 rfl ?_
      refine tr_getR dX7_undo_6 fg_RX7_40 (by first | assumption | decide) (by first | assumption | rfl) rfl (by omega) ?_
      refine tr_getI dX7_undo_9 fg_RX7_80 (by first | assumption | decide) (by first | assumption | rfl) rfl (by first | assumption | rfl) ?_
      -- at 12: .if_icmp .le 5
      refine tr_leN (tgt := 17) dX7_undo_12 (by decide) (by omega) (by omega) (fun h2 => ?_) (fun h2 => ?_)
      · have e : S_undo σ (nI q) = (nI ((sL σ).length - q), gL σ ((sL σ).take q)) := by simp only [S_undo, hr]
        rw [e]
        refine tr_aload_n dX7_undo_17 rfl ?_
        refine tr_getR dX7_undo_18 fg_RX7_40 (by first | assumption | decide) (by first | assumption | rfl) rfl (by omega) ?_
        refine tr_getI dX7_undo_21 fg_RX7_80 (by first | assumption | decide) (by first | assumption | rfl) rfl (by first | assumption | rfl) ?_
        refine tr_iload_n dX7_undo_24 rfl ?_
        first | with_reducible refine tr_isubN dX7_undo_25 (by omega) ?_ | refine tr_isub dX7_undo_25 ?_
        refine tr_istore_n_2 dX7_undo_26 (by decide) rfl ?_
        refine tr_aload_n dX7_undo_27 rfl ?_
        refine tr_iload_n dX7_undo_28 rfl ?_
        -- at 29: .invokevirtual 146
        refine tr_Vv (As := [_]) dX7_undo_29 fm_RX7_146 rfl rfl (by first | assumption | decide) (by first | assumption | rfl) (Nat.le_of_ble_eq_true rfl) (c_again (d := d) hW.1 hW.2.2.1 h2 h.2.2.1 h.2.2.2.2.1) (fun μ1 ⟨e1, e2, e3⟩ => ?_)
        have s1 := sP.of (P := fun b => (10 ≤ b ∧ b < 15) ∨ b = 25 ∨ b = 26) e1 (fun b hb => by simp at hb; omega)
        refine tr_iload_n dX7_undo_32 rfl ?_
        -- at 33: .ireturn
        refine tr_iret dX7_undo_33 (by first | exact trivial | rfl) ⟨rfl, h.deeds s1 e2 e3, s1.fr (fun b hb => by omega)⟩
      · omega
theorem f_keep (h : CI μ σ) (hW : WI σ) : cp X (d + 6) kX7_keep [.ref 2, .int r] μ (PO μ (S_keep σ r)) := by
  have r4 := h.2.2.2.1.1
  have r1 := h.2.2.2.2.1.2.1
  have hl := hW.2.2.1.1
  have hw1 := hW.now.1
  refine cp_of ok_X7_keep (L := [.ref 2, .int r]) rfl ?_
  cases hr : ixV r 3 with
  | none =>
    refine tr_iload_n dX7_keep_0 rfl ?_
    -- at 1: .ifCond .lt 8
    refine tr_if_lt (tgt := 9) dX7_keep_1 (by decide) (fun h1 => ?_) (fun h1 => ?_)
    · refine tr_iconst (v := -1) dX7_keep_9 (by decide) ?_
      -- at 10: .ireturn
      refine tr_iret dX7_keep_10 (by first | exact trivial | rfl) (po_same h (by simp only [S_keep, hr]))
    · refine tr_iload_n dX7_keep_4 rfl ?_
      refine tr_iconst (v := nI 3) dX7_keep_5 (by decide) ?_
      -- at 6: .if_icmp .lt 5
      refine tr_icmp_lt (tgt := 11) dX7_keep_6 (by decide) (fun h2 => ?_) (fun h2 => ?_)
      · exact absurd ⟨Int32.not_lt.mp h1, h2⟩ (ixV_none hr)
      · refine tr_iconst (v := -1) dX7_keep_9 (by decide) ?_
        -- at 10: .ireturn
        refine tr_iret dX7_keep_10 (by first | exact trivial | rfl) (po_same h (by simp only [S_keep, hr]))
  | some q =>
    obtain ⟨rfl, hq⟩ := ixV_some (by omega) hr
    obtain ⟨⟨i0, i1⟩, s0, s1⟩ := isD_k hq
    refine tr_iload_n dX7_keep_0 rfl ?_
    -- at 1: .ifCond .lt 8
    refine tr_if_lt (tgt := 9) dX7_keep_1 (by decide) (fun h1 => ?_) (fun h1 => ?_)
    · exact absurd h1 (nI_pos (by omega))
    · refine tr_iload_n dX7_keep_4 rfl ?_
      refine tr_iconst (v := nI 3) dX7_keep_5 (by decide) ?_
      -- at 6: .if_icmp .lt 5
      refine tr_ltN (tgt := 11) dX7_keep_6 (by decide) (by omega) (by omega) (fun h2 => ?_) (fun h2 => ?_)
      · refine tr_aload_n dX7_keep_11 rfl ?_
        refine tr_getR dX7_keep_12 fg_RX7_28 (by first | assumption | decide) (by first | assumption | rfl) rfl (by omega) ?_
        refine tr_getI dX7_keep_15 fg_RX7_149 (by first | assumption | decide) (by first | assumption | rfl) rfl (by first | assumption | rfl) ?_
        -- at 18: .ifCond .ne 6
        refine tr_ifnN (tgt := 24) dX7_keep_18 (by decide) (by omega) (fun h3 => ?_) (fun h3 => ?_)
        · have e : S_keep σ (nI q) = (nI (sL σ).length, gK σ q (some (sL σ))) := by
            simp only [S_keep, hr]
            rw [if_neg h3]
          rw [e]
          refine tr_aload_n dX7_keep_24 rfl ?_
          refine tr_getR dX7_keep_25 fg_RX7_44 (by first | assumption | decide) (by first | assumption | rfl) rfl (by omega) ?_
          refine tr_iload_n dX7_keep_28 rfl ?_
          -- at 29: .aaload
          refine tr_aald dX7_keep_29 (by first | assumption | decide) (by first | assumption | rfl) (by decide) rfl (kept_at hq) (by decide) ?_
          refine tr_aload_n dX7_keep_30 rfl ?_
          refine tr_getR dX7_keep_31 fg_RX7_40 (by first | assumption | decide) (by first | assumption | rfl) rfl (by omega) ?_
          -- at 34: .invokevirtual 208
          refine tr_Vv (As := [_]) dX7_keep_34 fm_RX7_208 rfl rfl (by first | assumption | decide) (by first | assumption | rfl) (Nat.le_of_ble_eq_true rfl) (c_dbecome (d := d + 4) (isD_k hq) isD_25 (by omega) h.2.2.2.2.1) (fun μ1 ⟨e1, e2⟩ => ?_)
          have s1 := sP.of (P := fun b => b = 93 + 2 * q ∨ b = 94 + 2 * q) e1 (fun b hb => by simp at hb; omega)
          have hc := h.keepk (o := some (sL σ)) s1 hq e2
          have r1 : μ1.1 25 1 = nI (sL σ).length := hc.2.2.2.2.1.2.1
          refine tr_aload_n dX7_keep_37 rfl ?_
          refine tr_getR dX7_keep_38 fg_RX7_40 (by first | assumption | decide) (by first | assumption | rfl) rfl (by omega) ?_
          refine tr_getI dX7_keep_41 fg_RX7_80 (by first | assumption | decide) (by first | assumption | rfl) rfl (by first | assumption | rfl) ?_
          -- at 44: .ireturn
          refine tr_iret dX7_keep_44 (by first | exact trivial | rfl) ⟨rfl, hc, s1.fr (fun b hb => by omega)⟩
        · refine tr_bipush (v := -4) dX7_keep_21 (by decide) ?_
          -- at 23: .ireturn
          refine tr_iret dX7_keep_23 (by first | exact trivial | rfl) (po_same h (by simp only [S_keep, hr]; rw [if_pos h3]))
      · omega
theorem f_on (h : CI μ σ) (hW : WI σ) : cp X (d + 6) kX7_on [.ref 2, .int r] μ (PO μ (S_on σ r)) := by
  refine cp_of ok_X7_on (L := [.ref 2, .int r]) rfl ?_
  cases hr : ixV r 3 with
  | none =>
    refine tr_iload_n dX7_on_0 rfl ?_
    -- at 1: .ifCond .lt 8
    refine tr_if_lt (tgt := 9) dX7_on_1 (by decide) (fun h1 => ?_) (fun h1 => ?_)
    · refine tr_iconst (v := -1) dX7_on_9 (by decide) ?_
      -- at 10: .ireturn
      refine tr_iret dX7_on_10 (by first | exact trivial | rfl) (po_same h (by simp only [S_on, hr]))
    · refine tr_iload_n dX7_on_4 rfl ?_
      refine tr_iconst (v := nI 3) dX7_on_5 (by decide) ?_
      -- at 6: .if_icmp .lt 5
      refine tr_icmp_lt (tgt := 11) dX7_on_6 (by decide) (fun h2 => ?_) (fun h2 => ?_)
      · exact absurd ⟨Int32.not_lt.mp h1, h2⟩ (ixV_none hr)
      · refine tr_iconst (v := -1) dX7_on_9 (by decide) ?_
        -- at 10: .ireturn
        refine tr_iret dX7_on_10 (by first | exact trivial | rfl) (po_same h (by simp only [S_on, hr]))
  | some q =>
    obtain ⟨rfl, hq⟩ := ixV_some (by omega) hr
    obtain ⟨⟨i0, i1⟩, s0, s1⟩ := isD_k hq
    have hk := h.2.2.2.2.2.1 q hq
    refine tr_iload_n dX7_on_0 rfl ?_
    -- at 1: .ifCond .lt 8
    refine tr_if_lt (tgt := 9) dX7_on_1 (by decide) (fun h1 => ?_) (fun h1 => ?_)
    · exact absurd h1 (nI_pos (by omega))
    · refine tr_iload_n dX7_on_4 rfl ?_
      refine tr_iconst (v := nI 3) dX7_on_5 (by decide) ?_
      -- at 6: .if_icmp .lt 5
      refine tr_ltN (tgt := 11) dX7_on_6 (by decide) (by omega) (by omega) (fun h2 => ?_) (fun h2 => ?_)
      · cases ho : sK σ q with
        | none =>
          rw [ho] at hk
          have k1 : μ.1 (93 + 2 * q) 1 = -1 := hk
          have e : S_on σ (nI q) = (-3, gF σ 1) := by simp only [S_on, hr, ho]
          rw [e]
          refine tr_aload_n dX7_on_11 rfl ?_
          refine tr_getR dX7_on_12 fg_RX7_44 (by first | assumption | decide) (by first | assumption | rfl) rfl (by omega) ?_
          refine tr_iload_n dX7_on_15 rfl ?_
          -- at 16: .aaload
          refine tr_aald dX7_on_16 (by first | assumption | decide) (by first | assumption | rfl) (by decide) rfl (kept_at hq) (by decide) ?_
          refine tr_getI dX7_on_17 fg_RX7_80 (by first | assumption | decide) (by first | assumption | rfl) rfl (by first | assumption | rfl) ?_
          refine tr_iconst (v := -1) dX7_on_20 (by decide) ?_
          -- at 21: .if_icmp .ne 9
          refine tr_icmp_ne (tgt := 30) dX7_on_21 (by decide) (fun h3 => ?_) (fun h3 => ?_)
          · exact absurd rfl h3
          · refine tr_aload_n dX7_on_24 rfl ?_
            refine tr_iconst (v := nI 1) dX7_on_25 (by decide) ?_
            -- at 26: .invokevirtual 88
            refine tr_Vi (As := [_]) dX7_on_26 fm_RX7_88 rfl rfl (by first | assumption | decide) (by first | assumption | rfl) (Nat.le_of_ble_eq_true rfl) (c_found (d := d + 4) (k := 1) (by omega) h) (fun v μ1 ⟨e1, e2, e3⟩ => ?_)
            refine tr_iret dX7_on_29 (by first | exact trivial | rfl) ⟨e1, e2, e3⟩
        | some l =>
          rw [ho] at hk
          have hk' : DR μ (93 + 2 * q) l := hk
          have k0 := hk'.1
          have k1 := hk'.2.1
          have e : S_on σ (nI q) = (nI l.length, gL σ l) := by simp only [S_on, hr, ho]
          rw [e]
          refine tr_aload_n dX7_on_11 rfl ?_
          refine tr_getR dX7_on_12 fg_RX7_44 (by first | assumption | decide) (by first | assumption | rfl) rfl (by omega) ?_
          refine tr_iload_n dX7_on_15 rfl ?_
          -- at 16: .aaload
          refine tr_aald dX7_on_16 (by first | assumption | decide) (by first | assumption | rfl) (by decide) rfl (kept_at hq) (by decide) ?_
          refine tr_getI dX7_on_17 fg_RX7_80 (by first | assumption | decide) (by first | assumption | rfl) rfl (by first | assumption | rfl) ?_
          refine tr_iconst (v := -1) dX7_on_20 (by decide) ?_
          -- at 21: .if_icmp .ne 9
          refine tr_icmp_ne (tgt := 30) dX7_on_21 (by decide) (fun h3 => ?_) (fun h3 => ?_)
          · refine tr_aload_n dX7_on_30 rfl ?_
            refine tr_getR dX7_on_31 fg_RX7_40 (by first | assumption | decide) (by first | assumption | rfl) rfl (by omega) ?_
            refine tr_aload_n dX7_on_34 rfl ?_
            refine tr_getR dX7_on_35 fg_RX7_44 (by first | assumption | decide) (by first | assumption | rfl) rfl (by omega) ?_
            refine tr_iload_n dX7_on_38 rfl ?_
            -- at 39: .aaload
            refine tr_aald dX7_on_39 (by first | assumption | decide) (by first | assumption | rfl) (by decide) rfl (kept_at hq) (by decide) ?_
            refine tr_Vv (As := [_]) dX7_on_40 fm_RX7_208 rfl rfl (by first | assumption | decide) (by first | assumption | rfl) (Nat.le_of_ble_eq_true rfl) (c_dbecome (d := d + 4) isD_25 (isD_k hq) (by omega) hk') (fun μ1 ⟨e1, e2⟩ => ?_)
            have k2 := e2.2.1
            refine tr_aload_n dX7_on_43 rfl ?_
            refine tr_aload_n dX7_on_44 rfl ?_
            refine tr_getR dX7_on_45 fg_RX7_40 (by first | assumption | decide) (by first | assumption | rfl) rfl (by omega) ?_
            refine tr_getI dX7_on_48 fg_RX7_80 (by first | assumption | decide) (by first | assumption | rfl) rfl (by first | assumption | rfl) ?_
            -- at 51: .invokevirtual 146
            refine tr_Vv (As := [_]) dX7_on_51 fm_RX7_146 rfl rfl (by first | assumption | decide) (by first | assumption | rfl) (Nat.le_of_ble_eq_true rfl) (c_again (d := d) (n := l.length) hW.1 (hW.2.2.2.1 q l ho) (Nat.le_refl _) (h.2.2.1.kept e1 (by decide) (by decide) (by decide) (by decide) (by decide)) e2) (fun μ2 ⟨e3, e4, e5⟩ => ?_)
            rw [List.take_length] at e4 e5
            have s1 := sP.of (P := fun b => (10 ≤ b ∧ b < 15) ∨ b = 25 ∨ b = 26) e1 (fun b hb => by simp at hb; omega)
            have s2 := s1.trans (sP.of (P := fun b => (10 ≤ b ∧ b < 15) ∨ b = 25 ∨ b = 26) e3 (fun b hb => by simp at hb; omega))
            have hc := h.deeds s2 e4 e5
            have r1 := e5.2.1
            refine tr_aload_n dX7_on_54 rfl ?_
            refine tr_getR dX7_on_55 fg_RX7_40 (by first | assumption | decide) (by first | assumption | rfl) rfl (by omega) ?_
            refine tr_getI dX7_on_58 fg_RX7_80 (by first | assumption | decide) (by first | assumption | rfl) rfl (by first | assumption | rfl) ?_
            -- at 61: .ireturn
            refine tr_iret dX7_on_61 (by first | exact trivial | rfl) ⟨rfl, hc, s2.fr (fun b hb => by omega)⟩
          · have : ¬ nI l.length = -1 := by
              intro q2
              have e : (nI l.length).toInt = (-1 : Int32).toInt := by rw [q2]
              rw [nI_toInt (by omega)] at e
              have : (-1 : Int32).toInt = -1 := rfl
              omega
            exact absurd h3 this
      · omega
end F3
