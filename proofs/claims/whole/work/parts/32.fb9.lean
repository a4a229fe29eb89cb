-- ===== FlapBoard: lots =====
def lotN (x : Nat) : Nat := x * 48271 % 2147483647
def lotD (c : NF) (x : Nat) : Nat := if x % 8 = 0 then 256 * 3 + 16 * (x / 8 % c 18) + 0 else if x % 8 ≤ 2 then 256 * 1 + 16 * (x / 8 % c 18) + x / 64 % 10 else if c 1 < 99 then 256 * 0 + 16 * 0 + 0 else 256 * 4 + 16 * 0 + 0
def lotL : Nat → Nat → SG → SG
  | 0, _, σ => σ
  | m + 1, x, σ => lotL m (lotN x) (gL σ (sL σ ++ [lotD (nowM σ) (lotN x)]))
def S_lots (σ : SG) (n s : Int32) : Int32 × SG := if 1 ≤ n ∧ n ≤ 20 ∧ 1 ≤ s ∧ s ≤ 2147483646 then if nowM σ 18 = 0 then (-4, σ) else if 40 < (sL σ).length + n.toNatClampNeg then (-2, σ) else (nI (numM (nowM (lotL n.toNatClampNeg s.toNatClampNeg σ)) (nowM (lotL n.toNatClampNeg s.toNatClampNeg σ) 18)), lotL n.toNatClampNeg s.toNatClampNeg σ) else (-1, σ)
theorem lotD_ok {c : NF} {x : Nat} (hw : wfc c) (h0 : c 18 ≠ 0) : dOK (c 18) (lotD c x) := by
  have h1 := hw.1
  have h2 : x / 8 % c 18 < c 18 := Nat.mod_lt _ (by omega)
  have h3 : x / 64 % 10 < 10 := Nat.mod_lt _ (by omega)
  unfold lotD dOK
  generalize x / 8 % c 18 = q at h2 ⊢
  generalize x / 64 % 10 = v at h3 ⊢
  split
  · refine ⟨by omega, by omega, by omega, by omega⟩
  · split
    · refine ⟨by omega, by omega, by omega, by omega⟩
    · split <;> exact ⟨by omega, by omega, by omega, by omega⟩
theorem WI.app {σ : SG} {dd : Nat} (hW : WI σ) (h0 : nowM σ 18 ≠ 0) (hok : dOK (nowM σ 18) dd) (hl : (sL σ).length < 40) : WI (gL σ (sL σ ++ [dd])) ∧ nowM (gL σ (sL σ ++ [dd])) 18 = nowM σ 18 := by
  have e := hW.n18
  obtain ⟨h1, h2, h3, h4, h5⟩ := hW
  rw [e] at h0 hok
  have hw : WI (gL σ (sL σ ++ [dd])) := by
    refine ⟨h1, h2, ⟨by show (sL σ ++ [dd]).length ≤ 40; simp; omega, fun x hx => ?_⟩, h4, fun q => absurd q h0⟩
    rcases List.mem_append.mp hx with q | q
    · exact h3.2 x q
    · rw [List.mem_singleton.mp q]; exact hok
  exact ⟨hw, by rw [hw.n18, e]; rfl⟩
section F9
variable {X : Nat × (Nat → Int32)} {d : Nat} {μ : am_M} {σ : SG} {r x y z w : Int32} {i j n : Nat} {f : Nat → Int32}
theorem c_lot {x : Nat} (hx : x < 2 ^ 31) (h : CI μ σ) (hW : WI σ) (h0 : nowM σ 18 ≠ 0) (hl : (sL σ).length < 40) : cp X (d + 6) kX7_carryOutLot [.ref 2, .long (lN x)] μ (qv (fun μ' => CI μ' (gL σ (sL σ ++ [lotD (nowM σ) x])) ∧ fr μ μ')) := by
  have hw := hW.now
  have hw1 := hw.1
  have r4 := h.2.2.2.1.1
  have r6 := h.2.2.2.1.2.2.1
  have h40 := hW.tick
  have hok := lotD_ok (x := x) hw h0
  have hq : x / 8 % nowM σ 18 < nowM σ 18 := Nat.mod_lt _ (by omega)
  have hv : x / 64 % 10 < 10 := Nat.mod_lt _ (by omega)
  refine cp_of ok_X7_carryOutLot (L := [.ref 2, .long (lN x), .float 0, .float 0, .float 0]) rfl ?_
  refine tr_aload_n dX7_carryOutLot_0 rfl ?_
  refine tr_getR dX7_carryOutLot_1 fg_RX7_28 (by first | assumption | decide) (by first | assumption | rfl) rfl (by omega) ?_
  refine tr_getI dX7_carryOutLot_4 fg_RX7_149 (by first | assumption | decide) (by first | assumption | rfl) rfl (by first | assumption | rfl) ?_
  -- at 7: .ifCond .ne 4
  refine tr_ifnN (tgt := 11) dX7_carryOutLot_7 (by decide) (by omega) (fun h1 => ?_) (fun h1 => ?_)
  · refine tr_lload_n dX7_carryOutLot_11 rfl ?_
    refine tr_ldc2 (v := lN 8) dX7_carryOutLot_12 fk_RX7_361 ?_
    refine tr_ldiv dX7_carryOutLot_15 (by decide) ?_
    -- at 16: .aload_n 0
    rw [pk_lDiv (by omega) (by omega) (by omega)]
    refine tr_aload_n dX7_carryOutLot_16 rfl ?_
    refine tr_getR dX7_carryOutLot_17 fg_RX7_28 (by first | assumption | decide) (by first | assumption | rfl) rfl (by omega) ?_
    refine tr_getI dX7_carryOutLot_20 fg_RX7_149 (by first | assumption | decide) (by first | assumption | rfl) rfl (by first | assumption | rfl) ?_
    refine tr_i2l dX7_carryOutLot_23 ?_
    -- at 24: .lrem
    rw [nI_l (by omega)]
    refine tr_lrem dX7_carryOutLot_24 (fun q => by have := (pk_lEQ (b := 0) (by omega) (by omega)).mp q; omega) ?_
    rw [pk_lRem (by omega) (by omega) (by omega)]
    refine tr_l2i dX7_carryOutLot_25 ?_
    -- at 26: .istore_n 3
    rw [lN_i]
    refine tr_istore_n_3 dX7_carryOutLot_26 (by decide) rfl ?_
    refine tr_lload_n dX7_carryOutLot_27 rfl ?_
    refine tr_ldc2 (v := lN 8) dX7_carryOutLot_28 fk_RX7_361 ?_
    refine tr_lrem dX7_carryOutLot_31 (by decide) ?_
    -- at 32: .l2i
    rw [pk_lRem (by omega) (by omega) (by omega)]
    refine tr_l2i dX7_carryOutLot_32 ?_
    -- at 33: .istore 4
    rw [lN_i]
    refine tr_istore_4 dX7_carryOutLot_33 (by decide) rfl ?_
    refine tr_iload dX7_carryOutLot_35 rfl ?_
    -- at 37: .ifCond .ne 13
    refine tr_ifnN (tgt := 50) dX7_carryOutLot_37 (by decide) (by omega) (fun h2 => ?_) (fun h2 => ?_)
    · refine tr_iload dX7_carryOutLot_50 rfl ?_
      refine tr_iconst (v := nI 2) dX7_carryOutLot_52 (by decide) ?_
      -- at 53: .if_icmp .gt 22
      refine tr_gtN (tgt := 75) dX7_carryOutLot_53 (by decide) (by omega) (by omega) (fun h3 => ?_) (fun h3 => ?_)
      · have e : lotD (nowM σ) x = (if nowM σ 1 < 99 then 256 * 0 + 16 * 0 + 0 else 256 * 4 + 16 * 0 + 0) := by rw [lotD, if_neg h2, if_neg (by omega)]
        refine tr_aload_n dX7_carryOutLot_75 rfl ?_
        refine tr_aload_n dX7_carryOutLot_76 rfl ?_
        refine tr_getR dX7_carryOutLot_77 fg_RX7_28 (by first | assumption | decide) (by first | assumption | rfl) rfl (by omega) ?_
        refine tr_getI dX7_carryOutLot_80 fg_RX7_184 (by first | assumption | decide) (by first | assumption | rfl) rfl (by first | assumption | rfl) ?_
        refine tr_bipush (v := nI 99) dX7_carryOutLot_83 (by decide) ?_
        -- at 85: .if_icmp .ge 7
        refine tr_geN (tgt := 92) dX7_carryOutLot_85 (by decide) (by omega) (by omega) (fun h4 => ?_) (fun h4 => ?_)
        · omega
        · rw [if_pos h4] at e
          rw [e] at hok ⊢
          refine tr_iconst (v := nI 0) dX7_carryOutLot_88 (by decide) ?_
          refine tr_goto (tgt := 93) dX7_carryOutLot_89 (by decide) ?_
          refine tr_iconst (v := nI 0) dX7_carryOutLot_93 (by decide) ?_
          refine tr_iconst (v := nI 0) dX7_carryOutLot_94 (by decide) ?_
          -- at 95: .invokevirtual 193
          refine tr_Vv (As := [_, _, _]) dX7_carryOutLot_95 fm_RX7_193 rfl rfl (by first | assumption | decide) (by first | assumption | rfl) (Nat.le_of_ble_eq_true rfl) (c_carryOut (d := d) (a := 0) (q := 0) (v := 0) h hW (by omega) (by omega) (by omega) hok hl) (fun μ1 ⟨e1, e2⟩ => ?_)
          refine tr_vret dX7_carryOutLot_98 (by first | exact trivial | rfl) ⟨e1, e2⟩
      · have e : lotD (nowM σ) x = 256 * 1 + 16 * (x / 8 % nowM σ 18) + x / 64 % 10 := by rw [lotD, if_neg h2, if_pos h3]
        rw [e] at hok ⊢
        refine tr_aload_n dX7_carryOutLot_56 rfl ?_
        refine tr_iconst (v := nI 1) dX7_carryOutLot_57 (by decide) ?_
        refine tr_iload_n dX7_carryOutLot_58 rfl ?_
        refine tr_lload_n dX7_carryOutLot_59 rfl ?_
        refine tr_ldc2 (v := lN 64) dX7_carryOutLot_60 fk_RX7_363 ?_
        refine tr_ldiv dX7_carryOutLot_63 (by decide) ?_
        -- at 64: .ldc2_w 365
        rw [pk_lDiv (by omega) (by omega) (by omega)]
        refine tr_ldc2 (v := lN 10) dX7_carryOutLot_64 fk_RX7_365 ?_
        refine tr_lrem dX7_carryOutLot_67 (by decide) ?_
        -- at 68: .l2i
        rw [pk_lRem (by omega) (by omega) (by omega)]
        refine tr_l2i dX7_carryOutLot_68 ?_
        -- at 69: .invokevirtual 193
        rw [lN_i]
        refine tr_Vv (As := [_, _, _]) dX7_carryOutLot_69 fm_RX7_193 rfl rfl (by first | assumption | decide) (by first | assumption | rfl) (Nat.le_of_ble_eq_true rfl) (c_carryOut (d := d) (a := 1) (q := x / 8 % nowM σ 18) (v := x / 64 % 10) h hW (by omega) (by omega) (by omega) hok hl) (fun μ1 ⟨e1, e2⟩ => ?_)
        refine tr_goto (tgt := 98) dX7_carryOutLot_72 (by decide) ?_
        -- at 98: .return_
        refine tr_vret dX7_carryOutLot_98 (by first | exact trivial | rfl) ⟨e1, e2⟩
    · have e : lotD (nowM σ) x = 256 * 3 + 16 * (x / 8 % nowM σ 18) + 0 := by rw [lotD, if_pos (by omega)]
      rw [e] at hok ⊢
      refine tr_aload_n dX7_carryOutLot_40 rfl ?_
      refine tr_iconst (v := nI 3) dX7_carryOutLot_41 (by decide) ?_
      refine tr_iload_n dX7_carryOutLot_42 rfl ?_
      refine tr_iconst (v := nI 0) dX7_carryOutLot_43 (by decide) ?_
      -- at 44: .invokevirtual 193
      refine tr_Vv (As := [_, _, _]) dX7_carryOutLot_44 fm_RX7_193 rfl rfl (by first | assumption | decide) (by first | assumption | rfl) (Nat.le_of_ble_eq_true rfl) (c_carryOut (d := d) (a := 3) (q := x / 8 % nowM σ 18) (v := 0) h hW (by omega) (by omega) (by omega) hok hl) (fun μ1 ⟨e1, e2⟩ => ?_)
      refine tr_goto (tgt := 98) dX7_carryOutLot_47 (by decide) ?_
      -- at 98: .return_
      refine tr_vret dX7_carryOutLot_98 (by first | exact trivial | rfl) ⟨e1, e2⟩
  · omega
theorem l_lots {m0 : am_M} {N : Nat} {sd : Int32} (hN : N ≤ 20) {P : Int32 × SG} : ∀ (m i x : Nat) (σ : SG) (μ : am_M), i + m = N → x < 2 ^ 31 → CI μ σ → WI σ → nowM σ 18 ≠ 0 → (sL σ).length + m ≤ 40 → fr m0 μ → P = (nI (numM (nowM (lotL m x σ)) (nowM (lotL m x σ) 18)), lotL m x σ) → tw X (d + 6) kX7_lots (PO m0 P) 60 [.ref 2, .int (nI N), .int sd, .long (lN x), .float 0, .int (nI i)] [] μ
  | m, i, x, σ, μ, him, hx, h, hW, h0, hl, hf, hP => by
    refine tr_iload dX7_lots_60 rfl ?_
    refine tr_iload_n dX7_lots_62 rfl ?_
    -- at 63: .if_icmp .ge 24
    refine tr_geN (tgt := 87) dX7_lots_63 (by decide) (by omega) (by omega) (fun h1 => ?_) (fun h1 => ?_)
    · obtain rfl : m = 0 := by omega
      rw [show lotL 0 x σ = σ from rfl] at hP
      subst hP
      refine tr_aload_n dX7_lots_87 rfl ?_
      refine tr_getR dX7_lots_88 fg_RX7_28 (by first | assumption | decide) (by first | assumption | rfl) rfl (by omega) ?_
      -- at 91: .invokevirtual 214
      refine tr_Vi (As := []) dX7_lots_91 fm_RX7_214 rfl rfl (by first | assumption | decide) (by first | assumption | rfl) (Nat.le_of_ble_eq_true rfl) (c_number (d := d + 5) isB_10 h.2.2.2.1 hW.now) (fun v μ1 ⟨e1, e2⟩ => ?_)
      subst μ1
      refine tr_iret dX7_lots_94 (by first | exact trivial | rfl) ⟨e2, h, hf⟩
    · obtain ⟨m', rfl⟩ : ∃ m', m = m' + 1 := ⟨m - 1, by omega⟩
      have hx2 : lotN x < 2147483647 := Nat.mod_lt _ (by omega)
      refine tr_lload_n dX7_lots_66 rfl ?_
      refine tr_ldc2 (v := lN 48271) dX7_lots_67 fk_RX7_287 ?_
      refine tr_lmul dX7_lots_70 ?_
      -- at 71: .ldc2_w 285
      rw [lN_mul]
      refine tr_ldc2 (v := lN 2147483647) dX7_lots_71 fk_RX7_285 ?_
      refine tr_lrem dX7_lots_74 (by decide) ?_
      -- at 75: .lstore_n 3
      rw [pk_lRem (by omega) (by omega) (by omega)]
      rw [show x * 48271 % 2147483647 = lotN x from rfl]
      refine tr_lstore_n_3 dX7_lots_75 (by decide) rfl ?_
      refine tr_aload_n dX7_lots_76 rfl ?_
      refine tr_lload_n dX7_lots_77 rfl ?_
      -- at 78: .invokevirtual 289
      refine tr_Vv (As := [_]) dX7_lots_78 fm_RX7_289 rfl rfl (by first | assumption | decide) (by first | assumption | rfl) (Nat.le_of_ble_eq_true rfl) (c_lot (d := d) (x := lotN x) (by omega) h hW h0 (by omega)) (fun μ1 ⟨e1, e2⟩ => ?_)
      obtain ⟨g1, g2⟩ := hW.app h0 (lotD_ok (x := lotN x) hW.now h0) (by omega)
      first | with_reducible refine tr_iincN_5 dX7_lots_81 (by decide) rfl ?_ | refine tr_iinc_5 dX7_lots_81 (by decide) rfl ?_
      refine tr_goto (tgt := 60) dX7_lots_84 (by decide) ?_
      -- at 60: .iload 5
      exact l_lots hN m' (i + 1) (lotN x) (gL σ (sL σ ++ [lotD (nowM σ) (lotN x)])) μ1 (by omega) (by omega) e1 g1 (by rw [g2]; exact h0) (by show (sL σ ++ [lotD (nowM σ) (lotN x)]).length + m' ≤ 40; simp; omega) (hf.trans e2) hP
  termination_by m => m
theorem f_lots (h : CI μ σ) (hW : WI σ) : cp X (d + 7) kX7_lots [.ref 2, .int x, .int y] μ (PO μ (S_lots σ x y)) := by
  have hw1 := hW.now.1
  have r4 := h.2.2.2.1.1
  have hll := hW.2.2.1.1
  refine cp_of ok_X7_lots (L := [.ref 2, .int x, .int y, .float 0, .float 0, .float 0]) rfl ?_
  have hbad : ¬ (1 ≤ x ∧ x ≤ 20 ∧ 1 ≤ y ∧ y ≤ 2147483646) → tw X (d + 6) kX7_lots (PO μ (S_lots σ x y)) 25 [.ref 2, .int x, .int y, .float 0, .float 0, .float 0] [] μ := by
    intro hn
    refine tr_iconst (v := -1) dX7_lots_25 (by decide) ?_
    -- at 26: .ireturn
    refine tr_iret dX7_lots_26 (by first | exact trivial | rfl) (po_same h (by rw [S_lots, if_neg hn]))
  refine tr_iload_n dX7_lots_0 rfl ?_
  refine tr_iconst (v := nI 1) dX7_lots_1 (by decide) ?_
  -- at 2: .if_icmp .lt 23
  refine tr_icmp_lt (tgt := 25) dX7_lots_2 (by decide) (fun h1 => ?_) (fun h1 => ?_)
  · exact hbad (fun q => absurd q.1 (Int32.not_le.mpr h1))
  · refine tr_iload_n dX7_lots_5 rfl ?_
    refine tr_bipush (v := nI 20) dX7_lots_6 (by decide) ?_
    -- at 8: .if_icmp .gt 17
    refine tr_icmp_gt (tgt := 25) dX7_lots_8 (by decide) (fun h2 => ?_) (fun h2 => ?_)
    · exact hbad (fun q => absurd q.2.1 (Int32.not_le.mpr h2))
    · refine tr_iload_n dX7_lots_11 rfl ?_
      refine tr_iconst (v := nI 1) dX7_lots_12 (by decide) ?_
      -- at 13: .if_icmp .lt 12
      refine tr_icmp_lt (tgt := 25) dX7_lots_13 (by decide) (fun h3 => ?_) (fun h3 => ?_)
      · exact hbad (fun q => absurd q.2.2.1 (Int32.not_le.mpr h3))
      · have h1' := Int32.not_lt.mp h1
        have h3' := Int32.not_lt.mp h3
        obtain ⟨n, hn, rfl⟩ := nI_of (x := x) (Int32.not_lt.mpr (Int32.le_trans (by decide) h1'))
        obtain ⟨s, hs, rfl⟩ := nI_of (x := y) (Int32.not_lt.mpr (Int32.le_trans (by decide) h3'))
        have hn20 : n ≤ 20 := (nI_leI (b := 20) hn (by omega)).mp (Int32.not_lt.mp h2)
        refine tr_iload_n dX7_lots_16 rfl ?_
        refine tr_i2l dX7_lots_17 ?_
        refine tr_ldc2 (v := lN 2147483647) dX7_lots_18 fk_RX7_285 ?_
        -- at 21: .lcmp
        rw [nI_l hs]
        refine tr_lcmp dX7_lots_21 ?_
        -- at 22: .ifCond .lt 5
        refine tr_if_lt (tgt := 27) dX7_lots_22 (by decide) (fun h4 => ?_) (fun h4 => ?_)
        · have h4' : s < 2147483647 := (pk_lLT (by omega) (by omega)).mp ((lg_cmp_lt _ _).mp h4)
          have e : S_lots σ (nI n) (nI s) = if nowM σ 18 = 0 then (-4, σ) else if 40 < (sL σ).length + n then (-2, σ) else (nI (numM (nowM (lotL n s σ)) (nowM (lotL n s σ) 18)), lotL n s σ) := by
            rw [S_lots, if_pos ⟨h1', Int32.not_lt.mp h2, h3', (nI_leI (b := 2147483646) hs (by omega)).mpr (by omega)⟩, nI_clamp hn, nI_clamp hs]
          rw [e]
          refine tr_aload_n dX7_lots_27 rfl ?_
          refine tr_getR dX7_lots_28 fg_RX7_28 (by first | assumption | decide) (by first | assumption | rfl) rfl (by omega) ?_
          refine tr_getI dX7_lots_31 fg_RX7_149 (by first | assumption | decide) (by first | assumption | rfl) rfl (by first | assumption | rfl) ?_
          -- at 34: .ifCond .ne 6
          refine tr_ifnN (tgt := 40) dX7_lots_34 (by decide) (by omega) (fun h5 => ?_) (fun h5 => ?_)
          · rw [if_neg h5]
            refine tr_aload_n dX7_lots_40 rfl ?_
            refine tr_getR dX7_lots_41 fg_RX7_40 (by first | assumption | decide) (by first | assumption | rfl) rfl (by omega) ?_
            refine tr_iload_n dX7_lots_44 rfl ?_
            -- at 45: .invokevirtual 187
            refine tr_Vi (As := [_]) dX7_lots_45 fm_RX7_187 rfl rfl (by first | assumption | decide) (by first | assumption | rfl) (Nat.le_of_ble_eq_true rfl) (c_isFull (d := d + 5) (n := n) (by omega) isD_25 h.2.2.2.2.1) (fun v μ1 ⟨e1, e2⟩ => ?_)
            subst μ1; subst v
            refine tr_ifb0 (tgt := 54) dX7_lots_48 (by decide) (fun h6 => ?_) (fun h6 => ?_)
            · have h6' := of_decide_eq_false h6
              rw [if_neg h6']
              refine tr_iload_n dX7_lots_54 rfl ?_
              refine tr_i2l dX7_lots_55 ?_
              -- at 56: .lstore_n 3
              rw [nI_l hs]
              refine tr_lstore_n_3 dX7_lots_56 (by decide) rfl ?_
              refine tr_iconst (v := nI 0) dX7_lots_57 (by decide) ?_
              refine tr_istore_5 dX7_lots_58 (by decide) rfl ?_
              -- at 60: .iload 5
              exact l_lots hn20 n 0 s σ μ (by omega) hs h hW h5 (by omega) (fr.rf μ) rfl
            · have h6' := of_decide_eq_true h6
              rw [if_pos h6']
              refine tr_bipush (v := -2) dX7_lots_51 (by decide) ?_
              -- at 53: .ireturn
              refine tr_iret dX7_lots_53 (by first | exact trivial | rfl) ⟨rfl, h, fr.rf μ⟩
          · rw [if_pos (by omega)]
            refine tr_bipush (v := -4) dX7_lots_37 (by decide) ?_
            -- at 39: .ireturn
            refine tr_iret dX7_lots_39 (by first | exact trivial | rfl) ⟨rfl, h, fr.rf μ⟩
        · refine hbad (fun q => h4 ((lg_cmp_lt _ _).mpr ((pk_lLT (by omega) (by omega)).mpr ?_)))
          have := (nI_leI (b := 2147483646) hs (by omega)).mp q.2.2.2
          omega
end F9
