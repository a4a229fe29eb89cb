-- ===== FlapBoard: copy, mean, text, put, fault, board =====
theorem hold_v {n q : Nat} {x : Int32} (hn : n ≤ 40) (hq : q < 2 ^ 31) (h : holdM n x (nI q) = true) : ∃ p, x = nI p ∧ p + q ≤ n := by
  obtain ⟨h1, h2, h3⟩ := of_decide_eq_true h
  obtain ⟨p, hp, rfl⟩ := nI_of (Int32.not_lt.mpr h1)
  have hp2 := (nI_leI hp (by omega)).mp h2
  rw [pk_sub hp2] at h3
  have := (nI_leI hq (by omega)).mp h3
  exact ⟨p, rfl, by omega⟩
def smM (f : Nat → Int32) : Nat → Int64
  | 0 => lN 0
  | i + 1 => smM f i + (f i).toInt64
def S_copy (σ : SG) (r i to_ j n : Int32) : Int32 × SG := match ixV r 6, ixV to_ 6 with
  | some a, some b => if n < 0 then (-3, gF σ 5) else match sR σ a, sR σ b with
    | some (n1, f1), some (n2, f2) => if (holdM n1 i n && holdM n2 j n) = true then (1, gR σ b (some (n2, va_cpy f1 f2 i.toNatClampNeg j.toNatClampNeg n.toNatClampNeg))) else (-3, gF σ 2)
    | _, _ => (-3, gF σ 1)
  | _, _ => (-1, σ)
def S_mean (σ : SG) (r : Int32) : Int32 × SG := match ixV r 6 with
  | none => (-1, σ)
  | some j => match sR σ j with
    | none => (-3, gF σ 1)
    | some (n, f) => if n = 0 then (-3, gF σ 4) else (1, gA σ (smM f n / (nI n).toInt64).toInt32)
def S_text (σ : SG) (t n : Int32) : Int32 × SG := match ixV t 4 with
  | none => (-1, σ)
  | some j => if nI 60 < n then (-1, σ) else if n < 0 then (-3, gF σ 5) else (n, gT σ j (some (n.toNatClampNeg, fun _ => 32)))
def S_put (σ : SG) (t i v : Int32) : Int32 × SG := match ixV t 4 with
  | none => (-1, σ)
  | some j => match sT σ j with
    | none => (-3, gF σ 1)
    | some (n, f) => match ixV i n with
      | none => (-3, gF σ 2)
      | some q => (f q + nI 1000, gT σ j (some (n, upd f q v.toInt8.toInt32.toInt8.toInt32)))
def S_fault (σ : SG) (t : Int32) : Int32 × SG := match ixV t 4 with
  | none => (-1, σ)
  | some j => match sT σ j with
    | none => (-3, gF σ 1)
    | some (n, f) => (kdR (rdT n f).1, σ)
def S_board (σ : SG) (t : Int32) : Int32 × SG := match ixV t 4 with
  | none => (-1, σ)
  | some j => match sT σ j with
    | none => (-3, gF σ 1)
    | some (n, f) => match (rdT n f).1 with
      | some _ => (-4, σ)
      | none => (nI ((rdT n f).2 18), gS σ (rdT n f).2)
section F2
variable {X : Nat × (Nat → Int32)} {d : Nat} {μ : am_M} {σ : SG} {r x y z w : Int32} {j n : Nat} {f : Nat → Int32}
theorem f_copy (h : CI μ σ) : cp X (d + 4) kX7_copy [.ref 2, .int r, .int x, .int y, .int z, .int w] μ (PO μ (S_copy σ r x y z w)) := by
  refine cp_of ok_X7_copy (L := [.ref 2, .int r, .int x, .int y, .int z, .int w]) rfl ?_
  refine tr_iload_n dX7_copy_0 rfl ?_
  -- at 1: .invokestatic 84
  refine tr_Si (As := [_]) dX7_copy_1 fm_RX7_84 rfl rfl (Nat.le_of_ble_eq_true rfl) (c_isRow (d := d + 2)) (fun v μ1 ⟨e1, e2⟩ => ?_)
  subst μ1; subst v
  cases hr : ixV r 6 with
  | none =>
    refine tr_ifb0 (tgt := 14) dX7_copy_4 (by decide) (fun h1 => ?_) (fun h1 => ?_)
    · refine tr_iconst (v := -1) dX7_copy_14 (by decide) ?_
      -- at 15: .ireturn
      refine tr_iret dX7_copy_15 (by first | exact trivial | rfl) (po_same h (by simp only [S_copy, hr]))
    · cases h1
  | some a =>
    obtain ⟨rfl, ha⟩ := ixV_some (by omega) hr
    refine tr_ifb0 (tgt := 14) dX7_copy_4 (by decide) (fun h1 => ?_) (fun h1 => ?_)
    · cases h1
    · refine tr_iload_n dX7_copy_7 rfl ?_
      -- at 8: .invokestatic 84
      refine tr_Si (As := [_]) dX7_copy_8 fm_RX7_84 rfl rfl (Nat.le_of_ble_eq_true rfl) (c_isRow (d := d + 2)) (fun v μ1 ⟨e1, e2⟩ => ?_)
      subst μ1; subst v
      cases hy : ixV y 6 with
      | none =>
        refine tr_ifb1 (tgt := 16) dX7_copy_11 (by decide) (fun h2 => ?_) (fun h2 => ?_)
        · cases h2
        · refine tr_iconst (v := -1) dX7_copy_14 (by decide) ?_
          -- at 15: .ireturn
          refine tr_iret dX7_copy_15 (by first | exact trivial | rfl) (po_same h (by simp only [S_copy, hr, hy]))
      | some b =>
        obtain ⟨rfl, hb⟩ := ixV_some (by omega) hy
        obtain ⟨⟨i0, i1⟩, s0, s1⟩ := isR_r ha
        obtain ⟨⟨j0, j1⟩, z0, z1⟩ := isR_r hb
        refine tr_ifb1 (tgt := 16) dX7_copy_11 (by decide) (fun h2 => ?_) (fun h2 => ?_)
        · refine tr_iload dX7_copy_16 rfl ?_
          -- at 18: .ifCond .ge 9
          refine tr_if_ge (tgt := 27) dX7_copy_18 (by decide) (fun h3 => ?_) (fun h3 => ?_)
          · obtain ⟨q, hq, rfl⟩ := nI_of (Int32.not_lt.mpr h3)
            have eS : S_copy σ (nI a) x (nI b) z (nI q) = match sR σ a, sR σ b with
                | some (n1, f1), some (n2, f2) => if (holdM n1 x (nI q) && holdM n2 z (nI q)) = true then (1, gR σ b (some (n2, va_cpy f1 f2 x.toNatClampNeg z.toNatClampNeg (nI q).toNatClampNeg))) else (-3, gF σ 2)
                | _, _ => (-3, gF σ 1) := by
              simp only [S_copy, hr, hy]
              rw [if_neg (nI_pos hq)]
            rw [eS]
            have hXa := h.1 a ha
            have hXb := h.1 b hb
            refine tr_aload_n dX7_copy_27 rfl ?_
            refine tr_getR dX7_copy_28 fg_RX7_11 (by first | assumption | decide) (by first | assumption | rfl) rfl (by omega) ?_
            refine tr_iload_n dX7_copy_31 rfl ?_
            -- at 32: .aaload
            refine tr_aald dX7_copy_32 (by first | assumption | decide) (by first | assumption | rfl) (by decide) rfl (row_at ha) (by decide) ?_
            refine tr_Vi (As := []) dX7_copy_33 fm_RX7_110 rfl rfl (by first | assumption | decide) (by first | assumption | rfl) (Nat.le_of_ble_eq_true rfl) (c_rmiss (d := d + 2) (isR_r ha) hXa) (fun v μ1 ⟨e1, e2⟩ => ?_)
            subst μ1; subst v
            cases hoa : sR σ a with
            | none =>
              refine tr_ifb1 (tgt := 51) dX7_copy_36 (by decide) (fun h4 => ?_) (fun h4 => ?_)
              · refine tr_aload_n dX7_copy_51 rfl ?_
                refine tr_iconst (v := nI 1) dX7_copy_52 (by decide) ?_
                -- at 53: .invokevirtual 88
                refine tr_Vi (As := [_]) dX7_copy_53 fm_RX7_88 rfl rfl (by first | assumption | decide) (by first | assumption | rfl) (Nat.le_of_ble_eq_true rfl) (c_found (d := d + 2) (k := 1) (by omega) h) (fun v μ1 ⟨e1, e2, e3⟩ => ?_)
                refine tr_iret dX7_copy_56 (by first | exact trivial | rfl) ⟨e1, e2, e3⟩
              · cases h4
            | some w1 =>
              obtain ⟨n1, f1⟩ := w1
              rw [hoa] at hXa
              refine tr_ifb1 (tgt := 51) dX7_copy_36 (by decide) (fun h4 => ?_) (fun h4 => ?_)
              · cases h4
              · refine tr_aload_n dX7_copy_39 rfl ?_
                refine tr_getR dX7_copy_40 fg_RX7_11 (by first | assumption | decide) (by first | assumption | rfl) rfl (by omega) ?_
                refine tr_iload_n dX7_copy_43 rfl ?_
                -- at 44: .aaload
                refine tr_aald dX7_copy_44 (by first | assumption | decide) (by first | assumption | rfl) (by decide) rfl (row_at hb) (by decide) ?_
                refine tr_Vi (As := []) dX7_copy_45 fm_RX7_110 rfl rfl (by first | assumption | decide) (by first | assumption | rfl) (Nat.le_of_ble_eq_true rfl) (c_rmiss (d := d + 2) (isR_r hb) hXb) (fun v μ1 ⟨e1, e2⟩ => ?_)
                subst μ1; subst v
                cases hob : sR σ b with
                | none =>
                  refine tr_ifb0 (tgt := 57) dX7_copy_48 (by decide) (fun h5 => ?_) (fun h5 => ?_)
                  · cases h5
                  · refine tr_aload_n dX7_copy_51 rfl ?_
                    refine tr_iconst (v := nI 1) dX7_copy_52 (by decide) ?_
                    -- at 53: .invokevirtual 88
                    refine tr_Vi (As := [_]) dX7_copy_53 fm_RX7_88 rfl rfl (by first | assumption | decide) (by first | assumption | rfl) (Nat.le_of_ble_eq_true rfl) (c_found (d := d + 2) (k := 1) (by omega) h) (fun v μ1 ⟨e1, e2, e3⟩ => ?_)
                    refine tr_iret dX7_copy_56 (by first | exact trivial | rfl) ⟨e1, e2, e3⟩
                | some w2 =>
                  obtain ⟨n2, f2⟩ := w2
                  rw [hob] at hXb
                  dsimp only
                  have k1 := hXa.2.1
                  have k2 := hXb.2.1
                  refine tr_ifb0 (tgt := 57) dX7_copy_48 (by decide) (fun h5 => ?_) (fun h5 => ?_)
                  · refine tr_aload_n dX7_copy_57 rfl ?_
                    refine tr_getR dX7_copy_58 fg_RX7_11 (by first | assumption | decide) (by first | assumption | rfl) rfl (by omega) ?_
                    refine tr_iload_n dX7_copy_61 rfl ?_
                    -- at 62: .aaload
                    refine tr_aald dX7_copy_62 (by first | assumption | decide) (by first | assumption | rfl) (by decide) rfl (row_at ha) (by decide) ?_
                    refine tr_iload_n dX7_copy_63 rfl ?_
                    refine tr_iload dX7_copy_64 rfl ?_
                    -- at 66: .invokevirtual 114
                    refine tr_Vi (As := [_, _]) dX7_copy_66 fm_RX7_114 rfl rfl (by first | assumption | decide) (by first | assumption | rfl) (Nat.le_of_ble_eq_true rfl) (c_holds (d := d + 2) (isR_r ha) hXa) (fun v μ1 ⟨e1, e2⟩ => ?_)
                    subst μ1; subst v
                    refine tr_ifb0 (tgt := 88) dX7_copy_69 (by decide) (fun h6 => ?_) (fun h6 => ?_)
                    · rw [h6]
                      refine tr_aload_n dX7_copy_88 rfl ?_
                      refine tr_iconst (v := nI 2) dX7_copy_89 (by decide) ?_
                      -- at 90: .invokevirtual 88
                      refine tr_Vi (As := [_]) dX7_copy_90 fm_RX7_88 rfl rfl (by first | assumption | decide) (by first | assumption | rfl) (Nat.le_of_ble_eq_true rfl) (c_found (d := d + 2) (k := 2) (by omega) h) (fun v μ1 ⟨e1, e2, e3⟩ => ?_)
                      refine tr_iret dX7_copy_93 (by first | exact trivial | rfl) ⟨e1, e2, e3⟩
                    · refine tr_aload_n dX7_copy_72 rfl ?_
                      refine tr_getR dX7_copy_73 fg_RX7_11 (by first | assumption | decide) (by first | assumption | rfl) rfl (by omega) ?_
                      refine tr_iload_n dX7_copy_76 rfl ?_
                      -- at 77: .aaload
                      refine tr_aald dX7_copy_77 (by first | assumption | decide) (by first | assumption | rfl) (by decide) rfl (row_at hb) (by decide) ?_
                      refine tr_iload dX7_copy_78 rfl ?_
                      refine tr_iload dX7_copy_80 rfl ?_
                      -- at 82: .invokevirtual 114
                      refine tr_Vi (As := [_, _]) dX7_copy_82 fm_RX7_114 rfl rfl (by first | assumption | decide) (by first | assumption | rfl) (Nat.le_of_ble_eq_true rfl) (c_holds (d := d + 2) (isR_r hb) hXb) (fun v μ1 ⟨e1, e2⟩ => ?_)
                      subst μ1; subst v
                      refine tr_ifb1 (tgt := 94) dX7_copy_85 (by decide) (fun h7 => ?_) (fun h7 => ?_)
                      · rw [h6, h7]
                        obtain ⟨p1, rfl, g1⟩ := hold_v k1 hq h6
                        obtain ⟨p2, rfl, g2⟩ := hold_v k2 hq h7
                        rw [nI_clamp (by omega), nI_clamp (by omega), nI_clamp (by omega)]
                        refine tr_aload_n dX7_copy_94 rfl ?_
                        refine tr_getR dX7_copy_95 fg_RX7_11 (by first | assumption | decide) (by first | assumption | rfl) rfl (by omega) ?_
                        refine tr_iload_n dX7_copy_98 rfl ?_
                        -- at 99: .aaload
                        refine tr_aald dX7_copy_99 (by first | assumption | decide) (by first | assumption | rfl) (by decide) rfl (row_at ha) (by decide) ?_
                        refine tr_getR dX7_copy_100 fg_RX7_100 (by first | assumption | decide) (by first | assumption | rfl) rfl (by omega) ?_
                        refine tr_iload_n dX7_copy_103 rfl ?_
                        refine tr_aload_n dX7_copy_104 rfl ?_
                        refine tr_getR dX7_copy_105 fg_RX7_11 (by first | assumption | decide) (by first | assumption | rfl) rfl (by omega) ?_
                        refine tr_iload_n dX7_copy_108 rfl ?_
                        -- at 109: .aaload
                        refine tr_aald dX7_copy_109 (by first | assumption | decide) (by first | assumption | rfl) (by decide) rfl (row_at hb) (by decide) ?_
                        refine tr_getR dX7_copy_110 fg_RX7_100 (by first | assumption | decide) (by first | assumption | rfl) rfl (by omega) ?_
                        refine tr_iload dX7_copy_113 rfl ?_
                        refine tr_iload dX7_copy_115 rfl ?_
                        -- at 117: .invokestatic 118
                        refine tr_acopy dX7_copy_117 fa_RX7_118 (by first | assumption | decide) (by first | assumption | decide) (by first | assumption | rfl) (by first | assumption | rfl) rfl rfl rfl (by omega) (by omega) (by omega) (by omega) (Nat.le_of_ble_eq_true rfl) ?_
                        refine tr_iconst (v := nI 1) dX7_copy_120 (by decide) ?_
                        -- at 121: .ireturn
                        have hs := (sP.rf (fun q => q = 73 + 2 * b ∨ q = 74 + 2 * b) μ).put (a := 73 + 2 * b + 1) (va_cpy (μ.1 (73 + 2 * a + 1)) (μ.1 (73 + 2 * b + 1)) p1 p2 q) (by omega)
                        refine tr_iret dX7_copy_121 (by first | exact trivial | rfl) ⟨rfl, h.row (o := some (n2, va_cpy f1 f2 p1 p2 q)) hs hb ⟨?_, k2, fun i hi => ?_⟩, hs.fr (fun q hq => by omega)⟩
                        · rw [sI_ne _ _ (by omega)]; exact hXb.1
                        · rw [sI_same]
                          by_cases hin : p2 ≤ i ∧ i < p2 + q
                          · rw [pk_cpy_in hin.1 hin.2, pk_cpy_in hin.1 hin.2]
                            exact hXa.2.2 _ (by omega)
                          · rw [pk_cpy_out (by omega), pk_cpy_out (by omega)]
                            exact hXb.2.2 i hi
                      · rw [h6, h7]
                        refine tr_aload_n dX7_copy_88 rfl ?_
                        refine tr_iconst (v := nI 2) dX7_copy_89 (by decide) ?_
                        -- at 90: .invokevirtual 88
                        refine tr_Vi (As := [_]) dX7_copy_90 fm_RX7_88 rfl rfl (by first | assumption | decide) (by first | assumption | rfl) (Nat.le_of_ble_eq_true rfl) (c_found (d := d + 2) (k := 2) (by omega) h) (fun v μ1 ⟨e1, e2, e3⟩ => ?_)
                        refine tr_iret dX7_copy_93 (by first | exact trivial | rfl) ⟨e1, e2, e3⟩
                  · cases h5
          · have eS : S_copy σ (nI a) x (nI b) z w = (-3, gF σ 5) := by
              simp only [S_copy, hr, hy]
              rw [if_pos (Int32.not_le.mp h3)]
            rw [eS]
            refine tr_aload_n dX7_copy_21 rfl ?_
            refine tr_iconst (v := nI 5) dX7_copy_22 (by decide) ?_
            -- at 23: .invokevirtual 88
            refine tr_Vi (As := [_]) dX7_copy_23 fm_RX7_88 rfl rfl (by first | assumption | decide) (by first | assumption | rfl) (Nat.le_of_ble_eq_true rfl) (c_found (d := d + 2) (k := 5) (by omega) h) (fun v μ1 ⟨e1, e2, e3⟩ => ?_)
            refine tr_iret dX7_copy_26 (by first | exact trivial | rfl) ⟨e1, e2, e3⟩
        · cases h2
theorem l_mean (h : CI μ σ) (hj : j < 6) (ho : sR σ j = some (n, f)) (hn0 : n ≠ 0) {w : Int32} : ∀ (m i : Nat), i + m = n → tw X d kX7_mean (PO μ (1, gA σ (smM f n / (nI n).toInt64).toInt32)) 35 [.ref 2, .int (nI j), .int w, .long (smM f i), .float 0, .int (nI i)] [] μ
  | m, i, him => by
    obtain ⟨⟨i0, i1⟩, s0, s1⟩ := isR_r hj
    have hX := h.1 j hj
    rw [ho] at hX
    obtain ⟨r1, r2, r3⟩ := hX
    refine tr_iload dX7_mean_35 rfl ?_
    refine tr_aload_n dX7_mean_37 rfl ?_
    refine tr_getR dX7_mean_38 fg_RX7_11 (by first | assumption | decide) (by first | assumption | rfl) rfl (by omega) ?_
    refine tr_iload_n dX7_mean_41 rfl ?_
    -- at 42: .aaload
    refine tr_aald dX7_mean_42 (by first | assumption | decide) (by first | assumption | rfl) (by decide) rfl (row_at hj) (by decide) ?_
    refine tr_getI dX7_mean_43 fg_RX7_109 (by first | assumption | decide) (by first | assumption | rfl) rfl (by first | assumption | rfl) ?_
    -- at 46: .if_icmp .ge 25
    refine tr_geN (tgt := 71) dX7_mean_46 (by decide) (by omega) (by omega) (fun h1 => ?_) (fun h1 => ?_)
    · obtain rfl : i = n := by omega
      refine tr_aload_n dX7_mean_71 rfl ?_
      refine tr_lload_n dX7_mean_72 rfl ?_
      refine tr_aload_n dX7_mean_73 rfl ?_
      refine tr_getR dX7_mean_74 fg_RX7_11 (by first | assumption | decide) (by first | assumption | rfl) rfl (by omega) ?_
      refine tr_iload_n dX7_mean_77 rfl ?_
      -- at 78: .aaload
      refine tr_aald dX7_mean_78 (by first | assumption | decide) (by first | assumption | rfl) (by decide) rfl (row_at hj) (by decide) ?_
      refine tr_getI dX7_mean_79 fg_RX7_109 (by first | assumption | decide) (by first | assumption | rfl) rfl (by first | assumption | rfl) ?_
      refine tr_i2l dX7_mean_82 ?_
      -- at 83: .ldiv
      refine tr_ldiv dX7_mean_83 (fun q => hn0 ((pk_lEQ (b := 0) (by omega) (by omega)).mp (by rw [← nI_l (by omega)]; exact q))) ?_
      refine tr_l2i dX7_mean_84 ?_
      refine tr_putI dX7_mean_85 fp_RX7_103 (by first | assumption | decide) (by first | assumption | rfl) rfl ?_
      refine tr_iconst (v := nI 1) dX7_mean_88 (by decide) ?_
      -- at 89: .ireturn
      refine tr_iret dX7_mean_89 (by first | exact trivial | rfl) ⟨rfl, h.asked _, (((sP.rf (fun b => b = 2) μ).put _ rfl)).fr (fun b hb => by omega)⟩
    · have r4 := r3 i h1
      refine tr_lload_n dX7_mean_49 rfl ?_
      refine tr_aload_n dX7_mean_50 rfl ?_
      refine tr_getR dX7_mean_51 fg_RX7_11 (by first | assumption | decide) (by first | assumption | rfl) rfl (by omega) ?_
      refine tr_iload_n dX7_mean_54 rfl ?_
      -- at 55: .aaload
      refine tr_aald dX7_mean_55 (by first | assumption | decide) (by first | assumption | rfl) (by decide) rfl (row_at hj) (by decide) ?_
      refine tr_getR dX7_mean_56 fg_RX7_100 (by first | assumption | decide) (by first | assumption | rfl) rfl (by omega) ?_
      refine tr_iload dX7_mean_59 rfl ?_
      refine tr_iald dX7_mean_61 (by first | assumption | decide) (by first | assumption | rfl) rfl (by omega) (by omega) (by first | assumption | rfl) ?_
      refine tr_i2l dX7_mean_62 ?_
      refine tr_ladd dX7_mean_63 ?_
      refine tr_lstore_n_3 dX7_mean_64 (by decide) rfl ?_
      first | with_reducible refine tr_iincN_5 dX7_mean_65 (by decide) rfl ?_ | refine tr_iinc_5 dX7_mean_65 (by decide) rfl ?_
      refine tr_goto (tgt := 35) dX7_mean_68 (by decide) ?_
      -- at 35: .iload 5
      exact l_mean h hj ho hn0 (m - 1) (i + 1) (by omega)
  termination_by m => m
theorem f_mean (h : CI μ σ) : cp X (d + 4) kX7_mean [.ref 2, .int r] μ (PO μ (S_mean σ r)) := by
  refine cp_of ok_X7_mean (L := [.ref 2, .int r, .float 0, .float 0, .float 0, .float 0]) rfl ?_
  refine tr_aload_n dX7_mean_0 rfl ?_
  refine tr_iload_n dX7_mean_1 rfl ?_
  -- at 2: .invokevirtual 106
  cases hr : ixV r 6 with
  | none =>
    refine tr_Vi (As := [_]) dX7_mean_2 fm_RX7_106 rfl rfl (by first | assumption | decide) (by first | assumption | rfl) (Nat.le_of_ble_eq_true rfl) (c_rowRef0 (d := d + 1) hr) (fun v μ1 ⟨e1, e2⟩ => ?_)
    subst μ1; subst v
    refine tr_istore_n_2 dX7_mean_5 (by decide) rfl ?_
    refine tr_iload_n dX7_mean_6 rfl ?_
    -- at 7: .ifCond .eq 5
    refine tr_if_eq (tgt := 12) dX7_mean_7 (by decide) (fun h1 => ?_) (fun h1 => ?_)
    · exact absurd h1 (by decide)
    · refine tr_iload_n dX7_mean_10 rfl ?_
      -- at 11: .ireturn
      refine tr_iret dX7_mean_11 (by first | exact trivial | rfl) (po_same h (by rw [S_mean, hr]))
  | some j =>
    obtain ⟨rfl, hj⟩ := ixV_some (by omega) hr
    cases ho : sR σ j with
    | none =>
      refine tr_Vi (As := [_]) dX7_mean_2 fm_RX7_106 rfl rfl (by first | assumption | decide) (by first | assumption | rfl) (Nat.le_of_ble_eq_true rfl) (c_rowRef1 (d := d + 1) h hj ho) (fun v μ1 ⟨e1, e2, e3⟩ => ?_)
      subst v
      refine tr_istore_n_2 dX7_mean_5 (by decide) rfl ?_
      refine tr_iload_n dX7_mean_6 rfl ?_
      -- at 7: .ifCond .eq 5
      refine tr_if_eq (tgt := 12) dX7_mean_7 (by decide) (fun h1 => ?_) (fun h1 => ?_)
      · exact absurd h1 m3_ne
      · refine tr_iload_n dX7_mean_10 rfl ?_
        -- at 11: .ireturn
        refine tr_iret dX7_mean_11 (by first | exact trivial | rfl) ?_
        have e : S_mean σ (nI j) = (-3, gF σ 1) := by simp only [S_mean, hr, ho]
        rw [e]
        exact ⟨rfl, e2, e3⟩
    | some w =>
      obtain ⟨n, f⟩ := w
      obtain ⟨⟨i0, i1⟩, s0, s1⟩ := isR_r hj
      have hX := h.1 j hj
      rw [ho] at hX
      have r1 := hX.1
      have r2 := hX.2.1
      refine tr_Vi (As := [_]) dX7_mean_2 fm_RX7_106 rfl rfl (by first | assumption | decide) (by first | assumption | rfl) (Nat.le_of_ble_eq_true rfl) (c_rowRef2 (d := d + 1) h hj ho) (fun v μ1 ⟨e1, e2⟩ => ?_)
      subst μ1; subst v
      refine tr_istore_n_2 dX7_mean_5 (by decide) rfl ?_
      refine tr_iload_n dX7_mean_6 rfl ?_
      -- at 7: .ifCond .eq 5
      refine tr_if0N (tgt := 12) dX7_mean_7 (by decide) (by omega) (fun h1 => ?_) (fun h1 => ?_)
      · refine tr_aload_n dX7_mean_12 rfl ?_
        refine tr_getR dX7_mean_13 fg_RX7_11 (by first | assumption | decide) (by first | assumption | rfl) rfl (by omega) ?_
        refine tr_iload_n dX7_mean_16 rfl ?_
        -- at 17: .aaload
        refine tr_aald dX7_mean_17 (by first | assumption | decide) (by first | assumption | rfl) (by decide) rfl (row_at hj) (by decide) ?_
        refine tr_getI dX7_mean_18 fg_RX7_109 (by first | assumption | decide) (by first | assumption | rfl) rfl (by first | assumption | rfl) ?_
        -- at 21: .ifCond .ne 9
        refine tr_ifnN (tgt := 30) dX7_mean_21 (by decide) (by omega) (fun h2 => ?_) (fun h2 => ?_)
        · have e : S_mean σ (nI j) = (1, gA σ (smM f n / (nI n).toInt64).toInt32) := by
            simp only [S_mean, hr, ho]
            rw [if_neg h2]
          rw [e]
          refine tr_lconst (v := lN 0) dX7_mean_30 (by decide) ?_
          refine tr_lstore_n_3 dX7_mean_31 (by decide) rfl ?_
          refine tr_iconst (v := nI 0) dX7_mean_32 (by decide) ?_
          refine tr_istore_5 dX7_mean_33 (by decide) rfl ?_
          -- at 35: .iload 5
          exact l_mean h hj ho h2 n 0 (by omega)
        · have e : S_mean σ (nI j) = (-3, gF σ 4) := by
            simp only [S_mean, hr, ho]
            rw [if_pos h2]
          rw [e]
          refine tr_aload_n dX7_mean_24 rfl ?_
          refine tr_iconst (v := nI 4) dX7_mean_25 (by decide) ?_
          -- at 26: .invokevirtual 88
          refine tr_Vi (As := [_]) dX7_mean_26 fm_RX7_88 rfl rfl (by first | assumption | decide) (by first | assumption | rfl) (Nat.le_of_ble_eq_true rfl) (c_found (d := d + 2) (k := 4) (by omega) h) (fun v μ1 ⟨e1, e2, e3⟩ => ?_)
          refine tr_iret dX7_mean_29 (by first | exact trivial | rfl) ⟨e1, e2, e3⟩
      · omega
theorem f_text (h : CI μ σ) : cp X (d + 3) kX7_text [.ref 2, .int r, .int x] μ (PO μ (S_text σ r x)) := by
  refine cp_of ok_X7_text (L := [.ref 2, .int r, .int x]) rfl ?_
  refine tr_iload_n dX7_text_0 rfl ?_
  -- at 1: .invokestatic 124
  refine tr_Si (As := [_]) dX7_text_1 fm_RX7_124 rfl rfl (Nat.le_of_ble_eq_true rfl) (c_isText (d := d + 1)) (fun v μ1 ⟨e1, e2⟩ => ?_)
  subst μ1; subst v
  cases hr : ixV r 4 with
  | none =>
    refine tr_ifb0 (tgt := 13) dX7_text_4 (by decide) (fun h1 => ?_) (fun h1 => ?_)
    · refine tr_iconst (v := -1) dX7_text_13 (by decide) ?_
      -- at 14: .ireturn
      refine tr_iret dX7_text_14 (by first | exact trivial | rfl) (po_same h (by rw [S_text, hr]))
    · cases h1
  | some j =>
    obtain ⟨rfl, hj⟩ := ixV_some (by omega) hr
    refine tr_ifb0 (tgt := 13) dX7_text_4 (by decide) (fun h1 => ?_) (fun h1 => ?_)
    · cases h1
    · refine tr_iload_n dX7_text_7 rfl ?_
      refine tr_bipush (v := nI 60) dX7_text_8 (by decide) ?_
      -- at 10: .if_icmp .le 5
      refine tr_icmp_le (tgt := 15) dX7_text_10 (by decide) (fun h2 => ?_) (fun h2 => ?_)
      · refine tr_iload_n dX7_text_15 rfl ?_
        -- at 16: .ifCond .ge 9
        refine tr_if_ge (tgt := 25) dX7_text_16 (by decide) (fun h3 => ?_) (fun h3 => ?_)
        · obtain ⟨q, hq, rfl⟩ := nI_of (Int32.not_lt.mpr h3)
          have hq2 := (nI_leI hq (by omega)).mp h2
          obtain ⟨⟨i0, i1⟩, s0, s1⟩ := isT_t hj
          refine tr_aload_n dX7_text_25 rfl ?_
          refine tr_getR dX7_text_26 fg_RX7_17 (by first | assumption | decide) (by first | assumption | rfl) rfl (by omega) ?_
          refine tr_iload_n dX7_text_29 rfl ?_
          -- at 30: .aaload
          refine tr_aald dX7_text_30 (by first | assumption | decide) (by first | assumption | rfl) (by decide) rfl (text_at hj) (by decide) ?_
          refine tr_iload_n dX7_text_31 rfl ?_
          -- at 32: .invokevirtual 127
          refine tr_Vv (As := [_]) dX7_text_32 fm_RX7_127 rfl rfl (by first | assumption | decide) (by first | assumption | rfl) (Nat.le_of_ble_eq_true rfl) (c_tbegin (d := d + 1) (isT_t hj) hq2) (fun μ1 ⟨e1, e2⟩ => ?_)
          have hs := sP.of (P := fun b => b = 85 + 2 * j ∨ b = 86 + 2 * j) e1 (fun b hb => by simp at hb; omega)
          refine tr_iload_n dX7_text_35 rfl ?_
          -- at 36: .ireturn
          refine tr_iret dX7_text_36 (by first | exact trivial | rfl) ?_
          have e : S_text σ (nI j) (nI q) = (nI q, gT σ j (some (q, fun _ => 32))) := by
            rw [S_text, hr]
            dsimp only
            rw [if_neg (Int32.not_lt.mpr h2), if_neg (nI_pos hq), nI_clamp hq]
          rw [e]
          exact ⟨rfl, h.text hs hj e2, hs.fr (fun b hb => by omega)⟩
        · refine tr_aload_n dX7_text_19 rfl ?_
          refine tr_iconst (v := nI 5) dX7_text_20 (by decide) ?_
          -- at 21: .invokevirtual 88
          refine tr_Vi (As := [_]) dX7_text_21 fm_RX7_88 rfl rfl (by first | assumption | decide) (by first | assumption | rfl) (Nat.le_of_ble_eq_true rfl) (c_found (d := d + 1) (k := 5) (by omega) h) (fun v μ1 ⟨e1, e2, e3⟩ => ?_)
          refine tr_iret dX7_text_24 (by first | exact trivial | rfl) ?_
          have e : S_text σ (nI j) x = (-3, gF σ 5) := by
            rw [S_text, hr]
            dsimp only
            rw [if_neg (Int32.not_lt.mpr h2), if_pos (Int32.not_le.mp h3)]
          rw [e]
          exact ⟨e1, e2, e3⟩
      · refine tr_iconst (v := -1) dX7_text_13 (by decide) ?_
        -- at 14: .ireturn
        refine tr_iret dX7_text_14 (by first | exact trivial | rfl) (po_same h (by rw [S_text, hr]; dsimp only; rw [if_pos (Int32.not_le.mp h2)]))
theorem f_put (h : CI μ σ) : cp X (d + 4) kX7_put [.ref 2, .int r, .int x, .int y] μ (PO μ (S_put σ r x y)) := by
  refine cp_of ok_X7_put (L := [.ref 2, .int r, .int x, .int y, .float 0, .float 0]) rfl ?_
  refine tr_aload_n dX7_put_0 rfl ?_
  refine tr_iload_n dX7_put_1 rfl ?_
  -- at 2: .invokevirtual 128
  cases hr : ixV r 4 with
  | none =>
    refine tr_Vi (As := [_]) dX7_put_2 fm_RX7_128 rfl rfl (by first | assumption | decide) (by first | assumption | rfl) (Nat.le_of_ble_eq_true rfl) (c_textRef0 (d := d + 1) hr) (fun v μ1 ⟨e1, e2⟩ => ?_)
    subst μ1; subst v
    refine tr_istore_4 dX7_put_5 (by decide) rfl ?_
    refine tr_iload dX7_put_7 rfl ?_
    -- at 9: .ifCond .eq 6
    refine tr_if_eq (tgt := 15) dX7_put_9 (by decide) (fun h1 => ?_) (fun h1 => ?_)
    · exact absurd h1 (by decide)
    · refine tr_iload dX7_put_12 rfl ?_
      -- at 14: .ireturn
      refine tr_iret dX7_put_14 (by first | exact trivial | rfl) (po_same h (by rw [S_put, hr]))
  | some j =>
    obtain ⟨rfl, hj⟩ := ixV_some (by omega) hr
    cases ho : sT σ j with
    | none =>
      refine tr_Vi (As := [_]) dX7_put_2 fm_RX7_128 rfl rfl (by first | assumption | decide) (by first | assumption | rfl) (Nat.le_of_ble_eq_true rfl) (c_textRef1 (d := d + 1) h hj ho) (fun v μ1 ⟨e1, e2, e3⟩ => ?_)
      subst v
      refine tr_istore_4 dX7_put_5 (by decide) rfl ?_
      refine tr_iload dX7_put_7 rfl ?_
      -- at 9: .ifCond .eq 6
      refine tr_if_eq (tgt := 15) dX7_put_9 (by decide) (fun h1 => ?_) (fun h1 => ?_)
      · exact absurd h1 m3_ne
      · refine tr_iload dX7_put_12 rfl ?_
        -- at 14: .ireturn
        refine tr_iret dX7_put_14 (by first | exact trivial | rfl) ?_
        have e : S_put σ (nI j) x y = (-3, gF σ 1) := by simp only [S_put, hr, ho]
        rw [e]
        exact ⟨rfl, e2, e3⟩
    | some w =>
      obtain ⟨n, f⟩ := w
      obtain ⟨⟨i0, i1⟩, s0, s1⟩ := isT_t hj
      have hX := h.2.1 j hj
      rw [ho] at hX
      have r1 := hX.1
      have r2 := hX.2.1
      refine tr_Vi (As := [_]) dX7_put_2 fm_RX7_128 rfl rfl (by first | assumption | decide) (by first | assumption | rfl) (Nat.le_of_ble_eq_true rfl) (c_textRef2 (d := d + 1) h hj ho) (fun v μ1 ⟨e1, e2⟩ => ?_)
      subst μ1; subst v
      refine tr_istore_4 dX7_put_5 (by decide) rfl ?_
      refine tr_iload dX7_put_7 rfl ?_
      -- at 9: .ifCond .eq 6
      refine tr_if0N (tgt := 15) dX7_put_9 (by decide) (by omega) (fun h1 => ?_) (fun h1 => ?_)
      · cases hx : ixV x n with
        | none =>
          have e : S_put σ (nI j) x y = (-3, gF σ 2) := by simp only [S_put, hr, ho, hx]
          rw [e]
          refine tr_iload_n dX7_put_15 rfl ?_
          -- at 16: .ifCond .lt 16
          refine tr_if_lt (tgt := 32) dX7_put_16 (by decide) (fun h2 => ?_) (fun h2 => ?_)
          · refine tr_aload_n dX7_put_32 rfl ?_
            refine tr_iconst (v := nI 2) dX7_put_33 (by decide) ?_
            -- at 34: .invokevirtual 88
            refine tr_Vi (As := [_]) dX7_put_34 fm_RX7_88 rfl rfl (by first | assumption | decide) (by first | assumption | rfl) (Nat.le_of_ble_eq_true rfl) (c_found (d := d + 2) (k := 2) (by omega) h) (fun v μ1 ⟨e1, e2, e3⟩ => ?_)
            refine tr_iret dX7_put_37 (by first | exact trivial | rfl) ⟨e1, e2, e3⟩
          · refine tr_iload_n dX7_put_19 rfl ?_
            refine tr_aload_n dX7_put_20 rfl ?_
            refine tr_getR dX7_put_21 fg_RX7_17 (by first | assumption | decide) (by first | assumption | rfl) rfl (by omega) ?_
            refine tr_iload_n dX7_put_24 rfl ?_
            -- at 25: .aaload
            refine tr_aald dX7_put_25 (by first | assumption | decide) (by first | assumption | rfl) (by decide) rfl (text_at hj) (by decide) ?_
            refine tr_getI dX7_put_26 fg_RX7_131 (by first | assumption | decide) (by first | assumption | rfl) rfl (by first | assumption | rfl) ?_
            -- at 29: .if_icmp .lt 9
            refine tr_icmp_lt (tgt := 38) dX7_put_29 (by decide) (fun h3 => ?_) (fun h3 => ?_)
            · exact absurd ⟨Int32.not_lt.mp h2, h3⟩ (ixV_none hx)
            · refine tr_aload_n dX7_put_32 rfl ?_
              refine tr_iconst (v := nI 2) dX7_put_33 (by decide) ?_
              -- at 34: .invokevirtual 88
              refine tr_Vi (As := [_]) dX7_put_34 fm_RX7_88 rfl rfl (by first | assumption | decide) (by first | assumption | rfl) (Nat.le_of_ble_eq_true rfl) (c_found (d := d + 2) (k := 2) (by omega) h) (fun v μ1 ⟨e1, e2, e3⟩ => ?_)
              refine tr_iret dX7_put_37 (by first | exact trivial | rfl) ⟨e1, e2, e3⟩
        | some q =>
          obtain ⟨rfl, hq⟩ := ixV_some (by omega) hx
          have r3 := hX.2.2 q hq
          have e : S_put σ (nI j) (nI q) y = (f q + nI 1000, gT σ j (some (n, upd f q y.toInt8.toInt32.toInt8.toInt32))) := by simp only [S_put, hr, ho, hx]
          rw [e]
          refine tr_iload_n dX7_put_15 rfl ?_
          -- at 16: .ifCond .lt 16
          refine tr_if_lt (tgt := 32) dX7_put_16 (by decide) (fun h2 => ?_) (fun h2 => ?_)
          · exact absurd h2 (nI_pos (by omega))
          · refine tr_iload_n dX7_put_19 rfl ?_
            refine tr_aload_n dX7_put_20 rfl ?_
            refine tr_getR dX7_put_21 fg_RX7_17 (by first | assumption | decide) (by first | assumption | rfl) rfl (by omega) ?_
            refine tr_iload_n dX7_put_24 rfl ?_
            -- at 25: .aaload
            refine tr_aald dX7_put_25 (by first | assumption | decide) (by first | assumption | rfl) (by decide) rfl (text_at hj) (by decide) ?_
            refine tr_getI dX7_put_26 fg_RX7_131 (by first | assumption | decide) (by first | assumption | rfl) rfl (by first | assumption | rfl) ?_
            -- at 29: .if_icmp .lt 9
            refine tr_ltN (tgt := 38) dX7_put_29 (by decide) (by omega) (by omega) (fun h3 => ?_) (fun h3 => ?_)
            · refine tr_aload_n dX7_put_38 rfl ?_
              refine tr_getR dX7_put_39 fg_RX7_17 (by first | assumption | decide) (by first | assumption | rfl) rfl (by omega) ?_
              refine tr_iload_n dX7_put_42 rfl ?_
              -- at 43: .aaload
              refine tr_aald dX7_put_43 (by first | assumption | decide) (by first | assumption | rfl) (by decide) rfl (text_at hj) (by decide) ?_
              refine tr_getR dX7_put_44 fg_RX7_132 (by first | assumption | decide) (by first | assumption | rfl) rfl (by omega) ?_
              refine tr_iload_n dX7_put_47 rfl ?_
              refine tr_bald dX7_put_48 (by first | assumption | decide) (by first | assumption | rfl) rfl (by omega) (by omega) (by first | assumption | rfl) ?_
              refine tr_istore_5 dX7_put_49 (by decide) rfl ?_
              refine tr_aload_n dX7_put_51 rfl ?_
              refine tr_getR dX7_put_52 fg_RX7_17 (by first | assumption | decide) (by first | assumption | rfl) rfl (by omega) ?_
              refine tr_iload_n dX7_put_55 rfl ?_
              -- at 56: .aaload
              refine tr_aald dX7_put_56 (by first | assumption | decide) (by first | assumption | rfl) (by decide) rfl (text_at hj) (by decide) ?_
              refine tr_getR dX7_put_57 fg_RX7_132 (by first | assumption | decide) (by first | assumption | rfl) rfl (by omega) ?_
              refine tr_iload_n dX7_put_60 rfl ?_
              refine tr_iload_n dX7_put_61 rfl ?_
              refine tr_i2b dX7_put_62 ?_
              refine tr_bast dX7_put_63 (by first | assumption | decide) (by first | assumption | rfl) rfl (by omega) (by omega) ?_
              refine tr_iload dX7_put_64 rfl ?_
              refine tr_sipush (v := nI 1000) dX7_put_66 (by decide) ?_
              first | with_reducible refine tr_iaddN dX7_put_69 ?_ | refine tr_iadd dX7_put_69 ?_
              -- at 70: .ireturn
              have hs := (sP.rf (fun b => b = 85 + 2 * j ∨ b = 86 + 2 * j) μ).put (a := 85 + 2 * j + 1) (upd (μ.1 (85 + 2 * j + 1)) q y.toInt8.toInt32.toInt8.toInt32) (by omega)
              refine tr_iret dX7_put_70 (by first | exact trivial | rfl) ⟨rfl, h.text (o := some (n, upd f q y.toInt8.toInt32.toInt8.toInt32)) hs hj ⟨?_, r2, fun i hi => ?_⟩, hs.fr (fun b hb => by omega)⟩
              · rw [sI_ne _ _ (by omega)]; exact r1
              · rw [sI_same]
                by_cases e : i = q
                · subst e; rw [pk_us, pk_us]
                · rw [pk_un e, pk_un e]; exact hX.2.2 i hi
            · omega
      · omega
theorem f_fault (h : CI μ σ) : cp X (d + 5) kX7_fault [.ref 2, .int r] μ (PO μ (S_fault σ r)) := by
  refine cp_of ok_X7_fault (L := [.ref 2, .int r, .float 0]) rfl ?_
  refine tr_aload_n dX7_fault_0 rfl ?_
  refine tr_iload_n dX7_fault_1 rfl ?_
  -- at 2: .invokevirtual 128
  cases hr : ixV r 4 with
  | none =>
    refine tr_Vi (As := [_]) dX7_fault_2 fm_RX7_128 rfl rfl (by first | assumption | decide) (by first | assumption | rfl) (Nat.le_of_ble_eq_true rfl) (c_textRef0 (d := d + 2) hr) (fun v μ1 ⟨e1, e2⟩ => ?_)
    subst μ1; subst v
    refine tr_istore_n_2 dX7_fault_5 (by decide) rfl ?_
    refine tr_iload_n dX7_fault_6 rfl ?_
    -- at 7: .ifCond .eq 7
    refine tr_if_eq (tgt := 14) dX7_fault_7 (by decide) (fun h1 => ?_) (fun h1 => ?_)
    · exact absurd h1 (by decide)
    · refine tr_iload_n dX7_fault_10 rfl ?_
      refine tr_goto (tgt := 27) dX7_fault_11 (by decide) ?_
      -- at 27: .ireturn
      refine tr_iret dX7_fault_27 (by first | exact trivial | rfl) (po_same h (by rw [S_fault, hr]))
  | some j =>
    obtain ⟨rfl, hj⟩ := ixV_some (by omega) hr
    cases ho : sT σ j with
    | none =>
      refine tr_Vi (As := [_]) dX7_fault_2 fm_RX7_128 rfl rfl (by first | assumption | decide) (by first | assumption | rfl) (Nat.le_of_ble_eq_true rfl) (c_textRef1 (d := d + 2) h hj ho) (fun v μ1 ⟨e1, e2, e3⟩ => ?_)
      subst v
      refine tr_istore_n_2 dX7_fault_5 (by decide) rfl ?_
      refine tr_iload_n dX7_fault_6 rfl ?_
      -- at 7: .ifCond .eq 7
      refine tr_if_eq (tgt := 14) dX7_fault_7 (by decide) (fun h1 => ?_) (fun h1 => ?_)
      · exact absurd h1 m3_ne
      · refine tr_iload_n dX7_fault_10 rfl ?_
        refine tr_goto (tgt := 27) dX7_fault_11 (by decide) ?_
        -- at 27: .ireturn
        refine tr_iret dX7_fault_27 (by first | exact trivial | rfl) ?_
        have e : S_fault σ (nI j) = (-3, gF σ 1) := by simp only [S_fault, hr, ho]
        rw [e]
        exact ⟨rfl, e2, e3⟩
    | some w =>
      obtain ⟨n, f⟩ := w
      have hX := h.2.1 j hj
      rw [ho] at hX
      refine tr_Vi (As := [_]) dX7_fault_2 fm_RX7_128 rfl rfl (by first | assumption | decide) (by first | assumption | rfl) (Nat.le_of_ble_eq_true rfl) (c_textRef2 (d := d + 2) h hj ho) (fun v μ1 ⟨e1, e2⟩ => ?_)
      subst μ1; subst v
      refine tr_istore_n_2 dX7_fault_5 (by decide) rfl ?_
      refine tr_iload_n dX7_fault_6 rfl ?_
      -- at 7: .ifCond .eq 7
      refine tr_if0N (tgt := 14) dX7_fault_7 (by decide) (by omega) (fun h1 => ?_) (fun h1 => ?_)
      · refine tr_aload_n dX7_fault_14 rfl ?_
        refine tr_getR dX7_fault_15 fg_RX7_17 (by first | assumption | decide) (by first | assumption | rfl) rfl (by omega) ?_
        refine tr_iload_n dX7_fault_18 rfl ?_
        -- at 19: .aaload
        refine tr_aald dX7_fault_19 (by first | assumption | decide) (by first | assumption | rfl) (by decide) rfl (text_at hj) (by decide) ?_
        refine tr_aload_n dX7_fault_20 rfl ?_
        refine tr_getR dX7_fault_21 fg_RX7_31 (by first | assumption | decide) (by first | assumption | rfl) rfl (by omega) ?_
        -- at 24: .invokestatic 136
        refine tr_Si (As := [_, _]) dX7_fault_24 fm_RX7_136 rfl rfl (Nat.le_of_ble_eq_true rfl) (c_read (d := d + 1) (isT_t hj) isB_15 (by omega) hX) (fun v μ1 ⟨e1, e2, e3⟩ => ?_)
        have hs := sP.of (P := scr) e1 (fun b hb => by simp at hb; unfold scr; omega)
        have e : S_fault σ (nI j) = (kdR (rdT n f).1, σ) := by simp only [S_fault, hr, ho]
        rw [e]
        refine tr_iret dX7_fault_27 (by first | exact trivial | rfl) ⟨e2, h.scr hs, hs.fr (fun b hb => by unfold scr at hb; omega)⟩
      · omega
theorem l_again {c0 : NF} {l : List Nat} (hw : wfc c0) (hl : dOKs (c0 18) l) (hn : n ≤ l.length) : ∀ (m i : Nat) (μ : am_M), i + m = n → BR μ 10 (repM (l.take i) c0) → DR μ 25 l → tw X (d + 4) kX7_doAgain (qv (fun μ' => same μ μ' [10, 12, 13, 25] ∧ BR μ' 10 (repM (l.take n) c0) ∧ DR μ' 25 (l.take n))) 13 [.ref 2, .int (nI n), .int (nI i)] [] μ
  | m, i, μ, him, hr, hd => by
    have hl40 := hl.1
    obtain ⟨r0, r1, r2⟩ := hd
    refine tr_iload_n dX7_doAgain_13 rfl ?_
    refine tr_iload_n dX7_doAgain_14 rfl ?_
    -- at 15: .if_icmp .ge 25
    refine tr_geN (tgt := 40) dX7_doAgain_15 (by decide) (by omega) (by omega) (fun h1 => ?_) (fun h1 => ?_)
    · obtain rfl : i = n := by omega
      refine tr_aload_n dX7_doAgain_40 rfl ?_
      refine tr_getR dX7_doAgain_41 fg_RX7_40 (by first | assumption | decide) (by first | assumption | rfl) rfl (by omega) ?_
      refine tr_iload_n dX7_doAgain_44 rfl ?_
      refine tr_putI dX7_doAgain_45 fp_RX7_80 (by first | assumption | decide) (by first | assumption | rfl) rfl ?_
      -- at 48: .return_
      refine tr_vret dX7_doAgain_48 (by first | exact trivial | rfl) ⟨(same.rf μ _).put _ (by simp), hr.kept ((same.rf μ [25]).put (a := 25) _ (by simp)) (by decide) (by decide) (by decide) (by decide) (by decide), by simp; omega, ?_, fun q hq => ?_⟩
      · rw [sI_same, pk_us, List.length_take, Nat.min_eq_left (by omega)]
      · rw [List.length_take] at hq
        rw [sI_ne _ _ (by omega), r2 q (by omega)]
        congr 1
        simp [List.getD_eq_getElem?_getD, List.getElem?_take, show q < i by omega]
    · have r3 := r2 i (by omega)
      have hsub : ∀ dd ∈ l.take i, dOK (c0 18) dd := fun dd hdd => hl.2 dd (List.mem_of_mem_take hdd)
      obtain ⟨w1, w2⟩ := repM_wf (l.take i) c0 hw hsub
      have hin : l.getD i 0 ∈ l := by
        rw [List.getD_eq_getElem?_getD, List.getElem?_eq_getElem (show i < l.length by omega)]
        exact List.getElem_mem _
      refine tr_aload_n dX7_doAgain_18 rfl ?_
      refine tr_getR dX7_doAgain_19 fg_RX7_28 (by first | assumption | decide) (by first | assumption | rfl) rfl (by omega) ?_
      refine tr_aload_n dX7_doAgain_22 rfl ?_
      refine tr_getR dX7_doAgain_23 fg_RX7_40 (by first | assumption | decide) (by first | assumption | rfl) rfl (by omega) ?_
      refine tr_getR dX7_doAgain_26 fg_RX7_358 (by first | assumption | decide) (by first | assumption | rfl) rfl (by omega) ?_
      refine tr_iload_n dX7_doAgain_29 rfl ?_
      refine tr_iald dX7_doAgain_30 (by first | assumption | decide) (by first | assumption | rfl) rfl (by omega) (by omega) (by first | assumption | rfl) ?_
      -- at 31: .invokevirtual 356
      refine tr_Vv (As := [_]) dX7_doAgain_31 fm_RX7_356 rfl rfl (by first | assumption | decide) (by first | assumption | rfl) (Nat.le_of_ble_eq_true rfl) (c_carry (d := d) isB_10 hr w1 (by rw [w2]; exact hl.2 _ hin)) (fun μ1 ⟨e1, e2⟩ => ?_)
      first | with_reducible refine tr_iincN_2 dX7_doAgain_34 (by decide) rfl ?_ | refine tr_iinc_2 dX7_doAgain_34 (by decide) rfl ?_
      refine tr_goto (tgt := 13) dX7_doAgain_37 (by decide) ?_
      -- at 13: .iload_n 2
      have et : repM (l.take (i + 1)) c0 = doM (l.getD i 0) (repM (l.take i) c0) := by
        rw [List.take_add_one, List.getElem?_eq_getElem (show i < l.length by omega)]
        rw [show ((some l[i]).toList : List Nat) = [l[i]] from rfl, repM_app]
        congr 1
        rw [List.getD_eq_getElem?_getD, List.getElem?_eq_getElem (show i < l.length by omega)]
        rfl
      rw [← et] at e2
      have e1' := e1.wide (l' := [10, 12, 13, 25]) (by simp)
      exact tw_mono (l_again hw hl hn (m - 1) (i + 1) μ1 (by omega) e2 (DR.kept ⟨r0, r1, r2⟩ (e1.1 25 (by decide)) (e1.1 26 (by decide)))) (fun r μ' ⟨q1, q2, q3⟩ => ⟨q1, e1'.trans q2, q3⟩)
  termination_by m => m
theorem c_again {c0 : NF} {l : List Nat} (hw : wfc c0) (hl : dOKs (c0 18) l) (hn : n ≤ l.length) (hb : BR μ 5 c0) (hd : DR μ 25 l) : cp X (d + 5) kX7_doAgain [.ref 2, .int (nI n)] μ (qv (fun μ' => same μ μ' [10, 11, 12, 13, 14, 25] ∧ BR μ' 10 (repM (l.take n) c0) ∧ DR μ' 25 (l.take n))) := by
  refine cp_of ok_X7_doAgain (L := [.ref 2, .int (nI n), .float 0]) rfl ?_
  refine tr_aload_n dX7_doAgain_0 rfl ?_
  refine tr_getR dX7_doAgain_1 fg_RX7_28 (by first | assumption | decide) (by first | assumption | rfl) rfl (by omega) ?_
  refine tr_aload_n dX7_doAgain_4 rfl ?_
  refine tr_getR dX7_doAgain_5 fg_RX7_24 (by first | assumption | decide) (by first | assumption | rfl) rfl (by omega) ?_
  -- at 8: .invokevirtual 142
  refine tr_Vv (As := [_]) dX7_doAgain_8 fm_RX7_142 rfl rfl (by first | assumption | decide) (by first | assumption | rfl) (Nat.le_of_ble_eq_true rfl) (c_become (d := d + 3) isB_10 isB_5 (by omega) hb hw) (fun μ1 ⟨e1, e2⟩ => ?_)
  have e1' := e1.wide (l' := [10, 11, 12, 13, 14, 25]) (by simp)
  refine tr_iconst (v := nI 0) dX7_doAgain_11 (by decide) ?_
  refine tr_istore_n_2 dX7_doAgain_12 (by decide) rfl ?_
  -- at 13: .iload_n 2
  exact tw_mono (l_again hw hl hn n 0 μ1 (by omega) e2 (hd.kept (e1.1 25 (by decide)) (e1.1 26 (by decide)))) (fun r μ' ⟨q1, q2, q3⟩ => ⟨q1, e1'.trans (q2.wide (by simp)), q3⟩)
end F2
