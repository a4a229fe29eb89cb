-- ===== Row, Text, Reader =====
section RT
variable {X : Nat × (Nat → Int32)} {d : Nat} {μ : am_M} {a b i n : Nat} {c : NF} {f : Nat → Int32} {o : RV}
theorem c_rmiss (hR : isR a) (hr : XR 40 μ a o) : cp X (d + 1) kX4_isMissing [.ref a] μ (qi (fun v μ' => μ' = μ ∧ v = nI (bN (noneR o)))) := by
  obtain ⟨⟨i0, i1⟩, s0, s1⟩ := hR
  have r1 := hr.sz
  refine cp_of ok_X4_isMissing (L := [.ref a]) rfl ?_
  refine tr_aload_n dX4_isMissing_0 rfl ?_
  refine tr_getI dX4_isMissing_1 fg_RX4_15 (by first | assumption | decide) (by first | assumption | rfl) rfl (by first | assumption | rfl) ?_
  refine tr_iconst (v := -1) dX4_isMissing_4 (by decide) ?_
  -- at 5: .if_icmp .ne 7
  refine tr_icmp_ne (tgt := 12) dX4_isMissing_5 (by decide) (fun h => ?_) (fun h => ?_)
  · have h' : noneR o = false := by
      cases e : noneR o with
      | false => rfl
      | true => exact absurd ((szR_none hr (by omega)).mpr e) h
    refine tr_iconst (v := nI 0) dX4_isMissing_12 (by decide) ?_
    -- at 13: .ireturn
    refine tr_iret dX4_isMissing_13 (by first | exact trivial | rfl) ⟨rfl, by rw [h']; rfl⟩
  · have h' : noneR o = true := (szR_none hr (by omega)).mp h
    refine tr_iconst (v := nI 1) dX4_isMissing_8 (by decide) ?_
    refine tr_goto (tgt := 13) dX4_isMissing_9 (by decide) ?_
    -- at 13: .ireturn
    refine tr_iret dX4_isMissing_13 (by first | exact trivial | rfl) ⟨rfl, by rw [h']; rfl⟩
theorem c_tmiss (hR : isT a) (hr : XR 60 μ a o) : cp X (d + 1) kX6_isMissing [.ref a] μ (qi (fun v μ' => μ' = μ ∧ v = nI (bN (noneR o)))) := by
  obtain ⟨⟨i0, i1⟩, s0, s1⟩ := hR
  have r1 := hr.sz
  refine cp_of ok_X6_isMissing (L := [.ref a]) rfl ?_
  refine tr_aload_n dX6_isMissing_0 rfl ?_
  refine tr_getI dX6_isMissing_1 fg_RX6_15 (by first | assumption | decide) (by first | assumption | rfl) rfl (by first | assumption | rfl) ?_
  refine tr_iconst (v := -1) dX6_isMissing_4 (by decide) ?_
  -- at 5: .if_icmp .ne 7
  refine tr_icmp_ne (tgt := 12) dX6_isMissing_5 (by decide) (fun h => ?_) (fun h => ?_)
  · have h' : noneR o = false := by
      cases e : noneR o with
      | false => rfl
      | true => exact absurd ((szR_none hr (by omega)).mpr e) h
    refine tr_iconst (v := nI 0) dX6_isMissing_12 (by decide) ?_
    -- at 13: .ireturn
    refine tr_iret dX6_isMissing_13 (by first | exact trivial | rfl) ⟨rfl, by rw [h']; rfl⟩
  · have h' : noneR o = true := (szR_none hr (by omega)).mp h
    refine tr_iconst (v := nI 1) dX6_isMissing_8 (by decide) ?_
    refine tr_goto (tgt := 13) dX6_isMissing_9 (by decide) ?_
    -- at 13: .ireturn
    refine tr_iret dX6_isMissing_13 (by first | exact trivial | rfl) ⟨rfl, by rw [h']; rfl⟩
theorem l_rbegin (hR : isR a) (hn : n ≤ 40) : ∀ (m i : Nat) (μ : am_M), i + m = n → μ.1 a 1 = nI n → (∀ q, q < i → μ.1 (a + 1) q = 0) → tw X d kX4_begin (qv (fun μ' => same μ μ' [a, a + 1] ∧ XR 40 μ' a (some (n, fun _ => 0)))) 7 [.ref a, .int (nI n), .int (nI i)] [] μ
  | m, i, μ, him, r1, hq => by
    have hR' := hR
    obtain ⟨⟨i0, i1⟩, s0, s1⟩ := hR
    refine tr_iload_n dX4_begin_7 rfl ?_
    refine tr_iload_n dX4_begin_8 rfl ?_
    -- at 9: .if_icmp .ge 16
    refine tr_geN (tgt := 25) dX4_begin_9 (by decide) (by omega) (by omega) (fun h1 => ?_) (fun h1 => ?_)
    · refine tr_vret dX4_begin_25 (by first | exact trivial | rfl) ⟨same.rf μ _, r1, hn, fun q hq2 => hq q (by omega)⟩
    · refine tr_aload_n dX4_begin_12 rfl ?_
      refine tr_getR dX4_begin_13 fg_RX4_9 (by first | assumption | decide) (by first | assumption | rfl) rfl (by omega) ?_
      refine tr_iload_n dX4_begin_16 rfl ?_
      refine tr_iconst (v := nI 0) dX4_begin_17 (by decide) ?_
      refine tr_iast dX4_begin_18 (by first | assumption | decide) (by first | assumption | rfl) rfl (by omega) (by omega) ?_
      -- at 19: .iinc 2 1
      have hs1 := (same.rf μ [a, a + 1]).put (a := a + 1) (upd (μ.1 (a + 1)) i (nI 0)) (by simp)
      have k0 : (sI μ (a + 1) (upd (μ.1 (a + 1)) i (nI 0))).1 a 1 = nI n := by rw [sI_ne _ _ (by omega)]; exact r1
      have k1 : ∀ q, q < i + 1 → (sI μ (a + 1) (upd (μ.1 (a + 1)) i (nI 0))).1 (a + 1) q = 0 := by
        intro q hq2
        rw [sI_same]
        by_cases e : q = i
        · subst e; rw [pk_us]; rfl
        · rw [pk_un e]; exact hq q (by omega)
      generalize sI μ (a + 1) (upd (μ.1 (a + 1)) i (nI 0)) = μ1 at hs1 k0 k1 ⊢
      first | with_reducible refine tr_iincN_2 dX4_begin_19 (by decide) rfl ?_ | refine tr_iinc_2 dX4_begin_19 (by decide) rfl ?_
      refine tr_goto (tgt := 7) dX4_begin_22 (by decide) ?_
      -- at 7: .iload_n 2
      exact tw_mono (l_rbegin hR' hn (m - 1) (i + 1) μ1 (by omega) k0 k1) (fun r μ' ⟨q1, q2, q3⟩ => ⟨q1, hs1.trans q2, q3⟩)
  termination_by m => m
theorem c_rbegin (hR : isR a) (hn : n ≤ 40) : cp X (d + 1) kX4_begin [.ref a, .int (nI n)] μ (qv (fun μ' => same μ μ' [a, a + 1] ∧ XR 40 μ' a (some (n, fun _ => 0)))) := by
  have hR' := hR
  obtain ⟨⟨i0, i1⟩, s0, s1⟩ := hR
  refine cp_of ok_X4_begin (L := [.ref a, .int (nI n), .float 0]) rfl ?_
  refine tr_aload_n dX4_begin_0 rfl ?_
  refine tr_iload_n dX4_begin_1 rfl ?_
  refine tr_putI dX4_begin_2 fp_RX4_15 (by first | assumption | decide) (by first | assumption | rfl) rfl ?_
  -- at 5: .iconst 0
  have hs1 := (same.rf μ [a, a + 1]).put (a := a) (upd (μ.1 a) 1 (nI n)) (by simp)
  have k0 : (sI μ a (upd (μ.1 a) 1 (nI n))).1 a 1 = nI n := by rw [sI_same, pk_us]
  generalize sI μ a (upd (μ.1 a) 1 (nI n)) = μ1 at hs1 k0 ⊢
  refine tr_iconst (v := nI 0) dX4_begin_5 (by decide) ?_
  refine tr_istore_n_2 dX4_begin_6 (by decide) rfl ?_
  -- at 7: .iload_n 2
  exact tw_mono (l_rbegin hR' hn n 0 μ1 (by omega) k0 (fun q h => by omega)) (fun r μ' ⟨q1, q2, q3⟩ => ⟨q1, hs1.trans q2, q3⟩)
theorem l_tbegin (hR : isT a) (hn : n ≤ 60) : ∀ (m i : Nat) (μ : am_M), i + m = n → μ.1 a 1 = nI n → (∀ q, q < i → μ.1 (a + 1) q = 32) → tw X d kX6_begin (qv (fun μ' => same μ μ' [a, a + 1] ∧ XR 60 μ' a (some (n, fun _ => 32)))) 7 [.ref a, .int (nI n), .int (nI i)] [] μ
  | m, i, μ, him, r1, hq => by
    have hR' := hR
    obtain ⟨⟨i0, i1⟩, s0, s1⟩ := hR
    refine tr_iload_n dX6_begin_7 rfl ?_
    refine tr_iload_n dX6_begin_8 rfl ?_
    -- at 9: .if_icmp .ge 17
    refine tr_geN (tgt := 26) dX6_begin_9 (by decide) (by omega) (by omega) (fun h1 => ?_) (fun h1 => ?_)
    · refine tr_vret dX6_begin_26 (by first | exact trivial | rfl) ⟨same.rf μ _, r1, hn, fun q hq2 => hq q (by omega)⟩
    · refine tr_aload_n dX6_begin_12 rfl ?_
      refine tr_getR dX6_begin_13 fg_RX6_9 (by first | assumption | decide) (by first | assumption | rfl) rfl (by omega) ?_
      refine tr_iload_n dX6_begin_16 rfl ?_
      refine tr_bipush (v := nI 32) dX6_begin_17 (by decide) ?_
      refine tr_bast dX6_begin_19 (by first | assumption | decide) (by first | assumption | rfl) rfl (by omega) (by omega) ?_
      -- at 20: .iinc 2 1
      have hs1 := (same.rf μ [a, a + 1]).put (a := a + 1) (upd (μ.1 (a + 1)) i (nI 32).toInt8.toInt32) (by simp)
      have k0 : (sI μ (a + 1) (upd (μ.1 (a + 1)) i (nI 32).toInt8.toInt32)).1 a 1 = nI n := by rw [sI_ne _ _ (by omega)]; exact r1
      have k1 : ∀ q, q < i + 1 → (sI μ (a + 1) (upd (μ.1 (a + 1)) i (nI 32).toInt8.toInt32)).1 (a + 1) q = 32 := by
        intro q hq2
        rw [sI_same]
        by_cases e : q = i
        · subst e; rw [pk_us]; rfl
        · rw [pk_un e]; exact hq q (by omega)
      generalize sI μ (a + 1) (upd (μ.1 (a + 1)) i (nI 32).toInt8.toInt32) = μ1 at hs1 k0 k1 ⊢
      first | with_reducible refine tr_iincN_2 dX6_begin_20 (by decide) rfl ?_ | refine tr_iinc_2 dX6_begin_20 (by decide) rfl ?_
      refine tr_goto (tgt := 7) dX6_begin_23 (by decide) ?_
      -- at 7: .iload_n 2
      exact tw_mono (l_tbegin hR' hn (m - 1) (i + 1) μ1 (by omega) k0 k1) (fun r μ' ⟨q1, q2, q3⟩ => ⟨q1, hs1.trans q2, q3⟩)
  termination_by m => m
theorem c_tbegin (hR : isT a) (hn : n ≤ 60) : cp X (d + 1) kX6_begin [.ref a, .int (nI n)] μ (qv (fun μ' => same μ μ' [a, a + 1] ∧ XR 60 μ' a (some (n, fun _ => 32)))) := by
  have hR' := hR
  obtain ⟨⟨i0, i1⟩, s0, s1⟩ := hR
  refine cp_of ok_X6_begin (L := [.ref a, .int (nI n), .float 0]) rfl ?_
  refine tr_aload_n dX6_begin_0 rfl ?_
  refine tr_iload_n dX6_begin_1 rfl ?_
  refine tr_putI dX6_begin_2 fp_RX6_15 (by first | assumption | decide) (by first | assumption | rfl) rfl ?_
  -- at 5: .iconst 0
  have hs1 := (same.rf μ [a, a + 1]).put (a := a) (upd (μ.1 a) 1 (nI n)) (by simp)
  have k0 : (sI μ a (upd (μ.1 a) 1 (nI n))).1 a 1 = nI n := by rw [sI_same, pk_us]
  generalize sI μ a (upd (μ.1 a) 1 (nI n)) = μ1 at hs1 k0 ⊢
  refine tr_iconst (v := nI 0) dX6_begin_5 (by decide) ?_
  refine tr_istore_n_2 dX6_begin_6 (by decide) rfl ?_
  -- at 7: .iload_n 2
  exact tw_mono (l_tbegin hR' hn n 0 μ1 (by omega) k0 (fun q h => by omega)) (fun r μ' ⟨q1, q2, q3⟩ => ⟨q1, hs1.trans q2, q3⟩)
theorem l_rdig (hR : isR a) (hr : XR 40 μ a (some (n, f))) {g hh : Int64} : ∀ (m i : Nat), i + m = n → tw X d kX4_digestFrom (ql (fun v μ' => μ' = μ ∧ v = dgM f n g)) 15 [.ref a, .long hh, .float 0, .long (dgM f i g), .float 0, .int (nI i)] [] μ
  | m, i, him => by
    have hR' := hR
    have hr' := hr
    obtain ⟨⟨i0, i1⟩, s0, s1⟩ := hR
    obtain ⟨r1, r2, r3⟩ := hr
    refine tr_iload dX4_digestFrom_15 rfl ?_
    refine tr_aload_n dX4_digestFrom_17 rfl ?_
    refine tr_getI dX4_digestFrom_18 fg_RX4_15 (by first | assumption | decide) (by first | assumption | rfl) rfl (by first | assumption | rfl) ?_
    -- at 21: .if_icmp .ge 24
    refine tr_geN (tgt := 45) dX4_digestFrom_21 (by decide) (by omega) (by omega) (fun h1 => ?_) (fun h1 => ?_)
    · refine tr_lload_n dX4_digestFrom_45 rfl ?_
      -- at 46: .lreturn
      refine tr_lret dX4_digestFrom_46 (by first | exact trivial | rfl) ⟨rfl, by rw [show i = n by omega]⟩
    · have r4 := r3 i h1
      refine tr_ldc2 (v := lN 31) dX4_digestFrom_24 fk_RX4_19 ?_
      refine tr_lload_n dX4_digestFrom_27 rfl ?_
      refine tr_lmul dX4_digestFrom_28 ?_
      refine tr_aload_n dX4_digestFrom_29 rfl ?_
      refine tr_getR dX4_digestFrom_30 fg_RX4_9 (by first | assumption | decide) (by first | assumption | rfl) rfl (by omega) ?_
      refine tr_iload dX4_digestFrom_33 rfl ?_
      refine tr_iald dX4_digestFrom_35 (by first | assumption | decide) (by first | assumption | rfl) rfl (by omega) (by omega) (by first | assumption | rfl) ?_
      refine tr_i2l dX4_digestFrom_36 ?_
      refine tr_ladd dX4_digestFrom_37 ?_
      refine tr_lstore_n_3 dX4_digestFrom_38 (by decide) rfl ?_
      first | with_reducible refine tr_iincN_5 dX4_digestFrom_39 (by decide) rfl ?_ | refine tr_iinc_5 dX4_digestFrom_39 (by decide) rfl ?_
      refine tr_goto (tgt := 15) dX4_digestFrom_42 (by decide) ?_
      -- at 15: .iload 5
      exact l_rdig hR' hr' (m - 1) (i + 1) (by omega)
  termination_by m => m
theorem c_rdig (hR : isR a) (hr : XR 40 μ a o) {hh : Int64} : cp X (d + 1) kX4_digestFrom [.ref a, .long hh] μ (ql (fun v μ' => μ' = μ ∧ v = (match o with | none => lN 31 * hh + (-1 : Int32).toInt64 | some (n, f) => dgM f n (lN 31 * hh + (nI n).toInt64)))) := by
  have hR' := hR
  obtain ⟨⟨i0, i1⟩, s0, s1⟩ := hR
  cases o with
  | none =>
    have r1 : μ.1 a 1 = -1 := hr
    refine cp_of ok_X4_digestFrom (L := [.ref a, .long hh, .float 0, .float 0, .float 0, .float 0]) rfl ?_
    refine tr_ldc2 (v := lN 31) dX4_digestFrom_0 fk_RX4_19 ?_
    refine tr_lload_n dX4_digestFrom_3 rfl ?_
    refine tr_lmul dX4_digestFrom_4 ?_
    refine tr_aload_n dX4_digestFrom_5 rfl ?_
    refine tr_getI dX4_digestFrom_6 fg_RX4_15 (by first | assumption | decide) (by first | assumption | rfl) rfl (by first | assumption | rfl) ?_
    refine tr_i2l dX4_digestFrom_9 ?_
    refine tr_ladd dX4_digestFrom_10 ?_
    refine tr_lstore_n_3 dX4_digestFrom_11 (by decide) rfl ?_
    refine tr_iconst (v := nI 0) dX4_digestFrom_12 (by decide) ?_
    refine tr_istore_5 dX4_digestFrom_13 (by decide) rfl ?_
    -- at 15: .iload 5
    refine tr_iload dX4_digestFrom_15 rfl ?_
    refine tr_aload_n dX4_digestFrom_17 rfl ?_
    refine tr_getI dX4_digestFrom_18 fg_RX4_15 (by first | assumption | decide) (by first | assumption | rfl) rfl (by first | assumption | rfl) ?_
    -- at 21: .if_icmp .ge 24
    refine tr_icmp_ge (tgt := 45) dX4_digestFrom_21 (by decide) (fun h1 => ?_) (fun h1 => ?_)
    · refine tr_lload_n dX4_digestFrom_45 rfl ?_
      -- at 46: .lreturn
      refine tr_lret dX4_digestFrom_46 (by first | exact trivial | rfl) ⟨rfl, rfl⟩
    · exact absurd (by decide) h1
  | some x =>
    obtain ⟨n, f⟩ := x
    have r1 := hr.1
    refine cp_of ok_X4_digestFrom (L := [.ref a, .long hh, .float 0, .float 0, .float 0, .float 0]) rfl ?_
    refine tr_ldc2 (v := lN 31) dX4_digestFrom_0 fk_RX4_19 ?_
    refine tr_lload_n dX4_digestFrom_3 rfl ?_
    refine tr_lmul dX4_digestFrom_4 ?_
    refine tr_aload_n dX4_digestFrom_5 rfl ?_
    refine tr_getI dX4_digestFrom_6 fg_RX4_15 (by first | assumption | decide) (by first | assumption | rfl) rfl (by first | assumption | rfl) ?_
    refine tr_i2l dX4_digestFrom_9 ?_
    refine tr_ladd dX4_digestFrom_10 ?_
    refine tr_lstore_n_3 dX4_digestFrom_11 (by decide) rfl ?_
    refine tr_iconst (v := nI 0) dX4_digestFrom_12 (by decide) ?_
    refine tr_istore_5 dX4_digestFrom_13 (by decide) rfl ?_
    -- at 15: .iload 5
    exact l_rdig hR' hr n 0 (by omega)
theorem l_tdig (hR : isT a) (hr : XR 60 μ a (some (n, f))) {g hh : Int64} : ∀ (m i : Nat), i + m = n → tw X d kX6_digestFrom (ql (fun v μ' => μ' = μ ∧ v = dgM f n g)) 15 [.ref a, .long hh, .float 0, .long (dgM f i g), .float 0, .int (nI i)] [] μ
  | m, i, him => by
    have hR' := hR
    have hr' := hr
    obtain ⟨⟨i0, i1⟩, s0, s1⟩ := hR
    obtain ⟨r1, r2, r3⟩ := hr
    refine tr_iload dX6_digestFrom_15 rfl ?_
    refine tr_aload_n dX6_digestFrom_17 rfl ?_
    refine tr_getI dX6_digestFrom_18 fg_RX6_15 (by first | assumption | decide) (by first | assumption | rfl) rfl (by first | assumption | rfl) ?_
    -- at 21: .if_icmp .ge 24
    refine tr_geN (tgt := 45) dX6_digestFrom_21 (by decide) (by omega) (by omega) (fun h1 => ?_) (fun h1 => ?_)
    · refine tr_lload_n dX6_digestFrom_45 rfl ?_
      -- at 46: .lreturn
      refine tr_lret dX6_digestFrom_46 (by first | exact trivial | rfl) ⟨rfl, by rw [show i = n by omega]⟩
    · have r4 := r3 i h1
      refine tr_ldc2 (v := lN 31) dX6_digestFrom_24 fk_RX6_23 ?_
      refine tr_lload_n dX6_digestFrom_27 rfl ?_
      refine tr_lmul dX6_digestFrom_28 ?_
      refine tr_aload_n dX6_digestFrom_29 rfl ?_
      refine tr_getR dX6_digestFrom_30 fg_RX6_9 (by first | assumption | decide) (by first | assumption | rfl) rfl (by omega) ?_
      refine tr_iload dX6_digestFrom_33 rfl ?_
      refine tr_bald dX6_digestFrom_35 (by first | assumption | decide) (by first | assumption | rfl) rfl (by omega) (by omega) (by first | assumption | rfl) ?_
      refine tr_i2l dX6_digestFrom_36 ?_
      refine tr_ladd dX6_digestFrom_37 ?_
      refine tr_lstore_n_3 dX6_digestFrom_38 (by decide) rfl ?_
      first | with_reducible refine tr_iincN_5 dX6_digestFrom_39 (by decide) rfl ?_ | refine tr_iinc_5 dX6_digestFrom_39 (by decide) rfl ?_
      refine tr_goto (tgt := 15) dX6_digestFrom_42 (by decide) ?_
      -- at 15: .iload 5
      exact l_tdig hR' hr' (m - 1) (i + 1) (by omega)
  termination_by m => m
theorem c_tdig (hR : isT a) (hr : XR 60 μ a o) {hh : Int64} : cp X (d + 1) kX6_digestFrom [.ref a, .long hh] μ (ql (fun v μ' => μ' = μ ∧ v = (match o with | none => lN 31 * hh + (-1 : Int32).toInt64 | some (n, f) => dgM f n (lN 31 * hh + (nI n).toInt64)))) := by
  have hR' := hR
  obtain ⟨⟨i0, i1⟩, s0, s1⟩ := hR
  cases o with
  | none =>
    have r1 : μ.1 a 1 = -1 := hr
    refine cp_of ok_X6_digestFrom (L := [.ref a, .long hh, .float 0, .float 0, .float 0, .float 0]) rfl ?_
    refine tr_ldc2 (v := lN 31) dX6_digestFrom_0 fk_RX6_23 ?_
    refine tr_lload_n dX6_digestFrom_3 rfl ?_
    refine tr_lmul dX6_digestFrom_4 ?_
    refine tr_aload_n dX6_digestFrom_5 rfl ?_
    refine tr_getI dX6_digestFrom_6 fg_RX6_15 (by first | assumption | decide) (by first | assumption | rfl) rfl (by first | assumption | rfl) ?_
    refine tr_i2l dX6_digestFrom_9 ?_
    refine tr_ladd dX6_digestFrom_10 ?_
    refine tr_lstore_n_3 dX6_digestFrom_11 (by decide) rfl ?_
    refine tr_iconst (v := nI 0) dX6_digestFrom_12 (by decide) ?_
    refine tr_istore_5 dX6_digestFrom_13 (by decide) rfl ?_
    -- at 15: .iload 5
    refine tr_iload dX6_digestFrom_15 rfl ?_
    refine tr_aload_n dX6_digestFrom_17 rfl ?_
    refine tr_getI dX6_digestFrom_18 fg_RX6_15 (by first | assumption | decide) (by first | assumption | rfl) rfl (by first | assumption | rfl) ?_
    -- at 21: .if_icmp .ge 24
    refine tr_icmp_ge (tgt := 45) dX6_digestFrom_21 (by decide) (fun h1 => ?_) (fun h1 => ?_)
    · refine tr_lload_n dX6_digestFrom_45 rfl ?_
      -- at 46: .lreturn
      refine tr_lret dX6_digestFrom_46 (by first | exact trivial | rfl) ⟨rfl, rfl⟩
    · exact absurd (by decide) h1
  | some x =>
    obtain ⟨n, f⟩ := x
    have r1 := hr.1
    refine cp_of ok_X6_digestFrom (L := [.ref a, .long hh, .float 0, .float 0, .float 0, .float 0]) rfl ?_
    refine tr_ldc2 (v := lN 31) dX6_digestFrom_0 fk_RX6_23 ?_
    refine tr_lload_n dX6_digestFrom_3 rfl ?_
    refine tr_lmul dX6_digestFrom_4 ?_
    refine tr_aload_n dX6_digestFrom_5 rfl ?_
    refine tr_getI dX6_digestFrom_6 fg_RX6_15 (by first | assumption | decide) (by first | assumption | rfl) rfl (by first | assumption | rfl) ?_
    refine tr_i2l dX6_digestFrom_9 ?_
    refine tr_ladd dX6_digestFrom_10 ?_
    refine tr_lstore_n_3 dX6_digestFrom_11 (by decide) rfl ?_
    refine tr_iconst (v := nI 0) dX6_digestFrom_12 (by decide) ?_
    refine tr_istore_5 dX6_digestFrom_13 (by decide) rfl ?_
    -- at 15: .iload 5
    exact l_tdig hR' hr n 0 (by omega)
def holdM (n : Nat) (x y : Int32) : Bool := decide (0 ≤ x ∧ x ≤ nI n ∧ y ≤ nI n - x)
theorem c_holds (hR : isR a) (hr : XR 40 μ a (some (n, f))) {x y : Int32} : cp X (d + 1) kX4_holds [.ref a, .int x, .int y] μ (qi (fun v μ' => μ' = μ ∧ v = nI (bN (holdM n x y)))) := by
  obtain ⟨⟨i0, i1⟩, s0, s1⟩ := hR
  obtain ⟨r1, r2, r3⟩ := hr
  refine cp_of ok_X4_holds (L := [.ref a, .int x, .int y]) rfl ?_
  refine tr_iload_n dX4_holds_0 rfl ?_
  -- at 1: .ifCond .lt 25
  refine tr_if_lt (tgt := 26) dX4_holds_1 (by decide) (fun h1 => ?_) (fun h1 => ?_)
  · refine tr_iconst (v := nI 0) dX4_holds_26 (by decide) ?_
    -- at 27: .ireturn
    refine tr_iret dX4_holds_27 (by first | exact trivial | rfl) ⟨rfl, by rw [show holdM n x y = false from decide_eq_false (fun q => Int32.not_le.mpr h1 q.1)]; rfl⟩
  · refine tr_iload_n dX4_holds_4 rfl ?_
    refine tr_aload_n dX4_holds_5 rfl ?_
    refine tr_getI dX4_holds_6 fg_RX4_15 (by first | assumption | decide) (by first | assumption | rfl) rfl (by first | assumption | rfl) ?_
    -- at 9: .if_icmp .gt 17
    refine tr_icmp_gt (tgt := 26) dX4_holds_9 (by decide) (fun h2 => ?_) (fun h2 => ?_)
    · refine tr_iconst (v := nI 0) dX4_holds_26 (by decide) ?_
      -- at 27: .ireturn
      refine tr_iret dX4_holds_27 (by first | exact trivial | rfl) ⟨rfl, by rw [show holdM n x y = false from decide_eq_false (fun q => Int32.not_le.mpr h2 q.2.1)]; rfl⟩
    · refine tr_iload_n dX4_holds_12 rfl ?_
      refine tr_aload_n dX4_holds_13 rfl ?_
      refine tr_getI dX4_holds_14 fg_RX4_15 (by first | assumption | decide) (by first | assumption | rfl) rfl (by first | assumption | rfl) ?_
      refine tr_iload_n dX4_holds_17 rfl ?_
      -- at 18: .isub
      refine tr_isub dX4_holds_18 ?_
      refine tr_icmp_gt (tgt := 26) dX4_holds_19 (by decide) (fun h3 => ?_) (fun h3 => ?_)
      · refine tr_iconst (v := nI 0) dX4_holds_26 (by decide) ?_
        -- at 27: .ireturn
        refine tr_iret dX4_holds_27 (by first | exact trivial | rfl) ⟨rfl, by rw [show holdM n x y = false from decide_eq_false (fun q => Int32.not_le.mpr h3 q.2.2)]; rfl⟩
      · refine tr_iconst (v := nI 1) dX4_holds_22 (by decide) ?_
        refine tr_goto (tgt := 27) dX4_holds_23 (by decide) ?_
        -- at 27: .ireturn
        refine tr_iret dX4_holds_27 (by first | exact trivial | rfl) ⟨rfl, by rw [show holdM n x y = true from decide_eq_true ⟨Int32.not_lt.mp h1, Int32.not_lt.mp h2, Int32.not_lt.mp h3⟩]; rfl⟩
def withM (n : Nat) (f : Nat → Int32) (most : Int32) : Bool := decide (∀ i, i < n → 0 ≤ f i ∧ f i ≤ most)
theorem l_within (hR : isR a) (hr : XR 40 μ a (some (n, f))) {y : Int32} : ∀ (m i : Nat), i + m = n → (∀ q, q < i → 0 ≤ f q ∧ f q ≤ y) → tw X d kX4_isWithin (qi (fun v μ' => μ' = μ ∧ v = nI (bN (withM n f y)))) 2 [.ref a, .int y, .int (nI i)] [] μ
  | m, i, him, hq => by
    have hR' := hR
    have hr' := hr
    obtain ⟨⟨i0, i1⟩, s0, s1⟩ := hR
    obtain ⟨r1, r2, r3⟩ := hr
    refine tr_iload_n dX4_isWithin_2 rfl ?_
    refine tr_aload_n dX4_isWithin_3 rfl ?_
    refine tr_getI dX4_isWithin_4 fg_RX4_15 (by first | assumption | decide) (by first | assumption | rfl) rfl (by first | assumption | rfl) ?_
    -- at 7: .if_icmp .ge 30
    refine tr_geN (tgt := 37) dX4_isWithin_7 (by decide) (by omega) (by omega) (fun h1 => ?_) (fun h1 => ?_)
    · refine tr_iconst (v := nI 1) dX4_isWithin_37 (by decide) ?_
      -- at 38: .ireturn
      refine tr_iret dX4_isWithin_38 (by first | exact trivial | rfl) ⟨rfl, by rw [show withM n f y = true from decide_eq_true (fun q h => hq q (by omega))]; rfl⟩
    · have r4 := r3 i h1
      refine tr_aload_n dX4_isWithin_10 rfl ?_
      refine tr_getR dX4_isWithin_11 fg_RX4_9 (by first | assumption | decide) (by first | assumption | rfl) rfl (by omega) ?_
      refine tr_iload_n dX4_isWithin_14 rfl ?_
      refine tr_iald dX4_isWithin_15 (by first | assumption | decide) (by first | assumption | rfl) rfl (by omega) (by omega) (by first | assumption | rfl) ?_
      -- at 16: .ifCond .lt 13
      refine tr_if_lt (tgt := 29) dX4_isWithin_16 (by decide) (fun h2 => ?_) (fun h2 => ?_)
      · refine tr_iconst (v := nI 0) dX4_isWithin_29 (by decide) ?_
        -- at 30: .ireturn
        refine tr_iret dX4_isWithin_30 (by first | exact trivial | rfl) ⟨rfl, by rw [show withM n f y = false from decide_eq_false (fun q => Int32.not_le.mpr h2 (q i h1).1)]; rfl⟩
      · refine tr_aload_n dX4_isWithin_19 rfl ?_
        refine tr_getR dX4_isWithin_20 fg_RX4_9 (by first | assumption | decide) (by first | assumption | rfl) rfl (by omega) ?_
        refine tr_iload_n dX4_isWithin_23 rfl ?_
        refine tr_iald dX4_isWithin_24 (by first | assumption | decide) (by first | assumption | rfl) rfl (by omega) (by omega) (by first | assumption | rfl) ?_
        refine tr_iload_n dX4_isWithin_25 rfl ?_
        -- at 26: .if_icmp .le 5
        refine tr_icmp_le (tgt := 31) dX4_isWithin_26 (by decide) (fun h3 => ?_) (fun h3 => ?_)
        · first | with_reducible refine tr_iincN_2 dX4_isWithin_31 (by decide) rfl ?_ | refine tr_iinc_2 dX4_isWithin_31 (by decide) rfl ?_
          refine tr_goto (tgt := 2) dX4_isWithin_34 (by decide) ?_
          -- at 2: .iload_n 2
          exact l_within hR' hr' (m - 1) (i + 1) (by omega) (fun q h => by
            by_cases e : q = i
            · subst e; exact ⟨Int32.not_lt.mp h2, h3⟩
            · exact hq q (by omega))
        · refine tr_iconst (v := nI 0) dX4_isWithin_29 (by decide) ?_
          -- at 30: .ireturn
          refine tr_iret dX4_isWithin_30 (by first | exact trivial | rfl) ⟨rfl, by rw [show withM n f y = false from decide_eq_false (fun q => h3 (q i h1).2)]; rfl⟩
  termination_by m => m
theorem c_within (hR : isR a) (hr : XR 40 μ a (some (n, f))) {y : Int32} : cp X (d + 1) kX4_isWithin [.ref a, .int y] μ (qi (fun v μ' => μ' = μ ∧ v = nI (bN (withM n f y)))) := by
  refine cp_of ok_X4_isWithin (L := [.ref a, .int y, .float 0]) rfl ?_
  refine tr_iconst (v := nI 0) dX4_isWithin_0 (by decide) ?_
  refine tr_istore_n_2 dX4_isWithin_1 (by decide) rfl ?_
  -- at 2: .iload_n 2
  exact l_within hR hr n 0 (by omega) (fun q h => by omega)
theorem c_isFigure {p lo : Nat} (hl : lo ≤ 1) (hp : p < 1000) (hR : isT a) (hr : XR 60 μ a (some (n, f))) : cp X (d + 1) kX6_isFigure [.ref a, .int (nI p), .int (nI lo)] μ (qi (fun v μ' => μ' = μ ∧ v = nI (bN (decide (p < n ∧ isFig lo (f p) = true))))) := by
  obtain ⟨⟨i0, i1⟩, s0, s1⟩ := hR
  obtain ⟨r1, r2, r3⟩ := hr
  refine cp_of ok_X6_isFigure (L := [.ref a, .int (nI p), .int (nI lo)]) rfl ?_
  refine tr_iload_n dX6_isFigure_0 rfl ?_
  refine tr_aload_n dX6_isFigure_1 rfl ?_
  refine tr_getI dX6_isFigure_2 fg_RX6_15 (by first | assumption | decide) (by first | assumption | rfl) rfl (by first | assumption | rfl) ?_
  -- at 5: .if_icmp .ge 31
  refine tr_geN (tgt := 36) dX6_isFigure_5 (by decide) (by omega) (by omega) (fun h1 => ?_) (fun h1 => ?_)
  · refine tr_iconst (v := nI 0) dX6_isFigure_36 (by decide) ?_
    -- at 37: .ireturn
    refine tr_iret dX6_isFigure_37 (by first | exact trivial | rfl) ⟨rfl, by rw [decide_eq_false (by omega)]; rfl⟩
  · have r4 := r3 p h1
    refine tr_aload_n dX6_isFigure_8 rfl ?_
    refine tr_getR dX6_isFigure_9 fg_RX6_9 (by first | assumption | decide) (by first | assumption | rfl) rfl (by omega) ?_
    refine tr_iload_n dX6_isFigure_12 rfl ?_
    refine tr_bald dX6_isFigure_13 (by first | assumption | decide) (by first | assumption | rfl) rfl (by omega) (by omega) (by first | assumption | rfl) ?_
    refine tr_bipush (v := nI 48) dX6_isFigure_14 (by decide) ?_
    refine tr_iload_n dX6_isFigure_16 rfl ?_
    first | with_reducible refine tr_iaddN dX6_isFigure_17 ?_ | refine tr_iadd dX6_isFigure_17 ?_
    -- at 18: .if_icmp .lt 18
    refine tr_icmp_lt (tgt := 36) dX6_isFigure_18 (by decide) (fun h2 => ?_) (fun h2 => ?_)
    · refine tr_iconst (v := nI 0) dX6_isFigure_36 (by decide) ?_
      -- at 37: .ireturn
      refine tr_iret dX6_isFigure_37 (by first | exact trivial | rfl) ⟨rfl, by rw [decide_eq_false (fun q => Int32.not_le.mpr h2 (of_decide_eq_true q.2).1)]; rfl⟩
    · refine tr_aload_n dX6_isFigure_21 rfl ?_
      refine tr_getR dX6_isFigure_22 fg_RX6_9 (by first | assumption | decide) (by first | assumption | rfl) rfl (by omega) ?_
      refine tr_iload_n dX6_isFigure_25 rfl ?_
      refine tr_bald dX6_isFigure_26 (by first | assumption | decide) (by first | assumption | rfl) rfl (by omega) (by omega) (by first | assumption | rfl) ?_
      refine tr_bipush (v := nI 58) dX6_isFigure_27 (by decide) ?_
      -- at 29: .if_icmp .ge 7
      refine tr_icmp_ge (tgt := 36) dX6_isFigure_29 (by decide) (fun h3 => ?_) (fun h3 => ?_)
      · refine tr_iconst (v := nI 0) dX6_isFigure_36 (by decide) ?_
        -- at 37: .ireturn
        refine tr_iret dX6_isFigure_37 (by first | exact trivial | rfl) ⟨rfl, by rw [decide_eq_false (fun q => Int32.not_lt.mpr h3 (of_decide_eq_true q.2).2)]; rfl⟩
      · refine tr_iconst (v := nI 1) dX6_isFigure_32 (by decide) ?_
        refine tr_goto (tgt := 37) dX6_isFigure_33 (by decide) ?_
        -- at 37: .ireturn
        refine tr_iret dX6_isFigure_37 (by first | exact trivial | rfl) ⟨rfl, by rw [decide_eq_true ⟨h1, decide_eq_true ⟨Int32.not_lt.mp h2, Int32.not_le.mp h3⟩⟩]; rfl⟩
theorem c_figure {p lo : Nat} (hl : lo ≤ 1) (hR : isT a) (hr : XR 60 μ a (some (n, f))) (hp : p < n) (hf : isFig lo (f p) = true) : cp X (d + 1) kX6_figure [.ref a, .int (nI p)] μ (qi (fun v μ' => μ' = μ ∧ v = nI (figV (f p)))) := by
  obtain ⟨⟨i0, i1⟩, s0, s1⟩ := hR
  obtain ⟨r1, r2, r3⟩ := hr
  have r4 := (r3 p hp).trans (isFig_v hl hf).1
  refine cp_of ok_X6_figure (L := [.ref a, .int (nI p)]) rfl ?_
  refine tr_aload_n dX6_figure_0 rfl ?_
  refine tr_getR dX6_figure_1 fg_RX6_9 (by first | assumption | decide) (by first | assumption | rfl) rfl (by omega) ?_
  refine tr_iload_n dX6_figure_4 rfl ?_
  refine tr_bald dX6_figure_5 (by first | assumption | decide) (by first | assumption | rfl) rfl (by omega) (by omega) (by first | assumption | rfl) ?_
  refine tr_bipush (v := nI 48) dX6_figure_6 (by decide) ?_
  first | with_reducible refine tr_isubN dX6_figure_8 (by omega) ?_ | refine tr_isub dX6_figure_8 ?_
  -- at 9: .ireturn
  refine tr_iret dX6_figure_9 (by first | exact trivial | rfl) ⟨rfl, by congr 1; omega⟩
theorem kind_step (x : Int32) : ∀ i, i < 6 → (∀ q, q < i → x ≠ am_let q) → x = am_let i → kdV x = some i := by
  intro i hi hq e
  have h0 : i = 0 ∨ i = 1 ∨ i = 2 ∨ i = 3 ∨ i = 4 ∨ i = 5 := by omega
  rcases h0 with rfl | rfl | rfl | rfl | rfl | rfl <;> (subst e; decide)
theorem kind_none (x : Int32) (hq : ∀ q, q < 6 → x ≠ am_let q) : kdV x = none := by
  have h0 : x ≠ 102 := hq 0 (by omega)
  have h1 : x ≠ 115 := hq 1 (by omega)
  have h2 : x ≠ 107 := hq 2 (by omega)
  have h3 : x ≠ 98 := hq 3 (by omega)
  have h4 : x ≠ 116 := hq 4 (by omega)
  have h5 : x ≠ 113 := hq 5 (by omega)
  simp [kdV, h0, h1, h2, h3, h4, h5]
def kdR (o : Option Nat) : Int32 := match o with
  | none => -9
  | some k => nI k
theorem l_kind {p : Nat} (hR : isT a) (hr : XR 60 μ a (some (n, f))) (hp : p < n) : ∀ (m i : Nat), i + m = 6 → (∀ q, q < i → f p ≠ am_let q) → tw X d kX6_kind (qi (fun v μ' => μ' = μ ∧ v = kdR (kdV (f p)))) 2 [.ref a, .int (nI p), .int (nI i)] [] μ
  | m, i, him, hq => by
    have hR' := hR
    have hr' := hr
    obtain ⟨⟨i0, i1⟩, s0, s1⟩ := hR
    obtain ⟨r1, r2, r3⟩ := hr
    have r4 := r3 p hp
    refine tr_iload_n dX6_kind_2 rfl ?_
    refine tr_bipush (v := nI 6) dX6_kind_3 (by decide) ?_
    -- at 5: .if_icmp .ge 33
    refine tr_geN (tgt := 38) dX6_kind_5 (by decide) (by omega) (by omega) (fun h1 => ?_) (fun h1 => ?_)
    · refine tr_bipush (v := -9) dX6_kind_38 (by decide) ?_
      -- at 40: .ireturn
      refine tr_iret dX6_kind_40 (by first | exact trivial | rfl) ⟨rfl, by rw [kind_none _ (fun q h => hq q (by omega))]; rfl⟩
    · refine tr_iload_n dX6_kind_8 rfl ?_
      refine tr_aload_n dX6_kind_9 rfl ?_
      refine tr_getI dX6_kind_10 fg_RX6_15 (by first | assumption | decide) (by first | assumption | rfl) rfl (by first | assumption | rfl) ?_
      -- at 13: .if_icmp .ge 25
      refine tr_geN (tgt := 38) dX6_kind_13 (by decide) (by omega) (by omega) (fun h2 => ?_) (fun h2 => ?_)
      · omega
      · refine tr_aload_n dX6_kind_16 rfl ?_
        refine tr_getR dX6_kind_17 fg_RX6_9 (by first | assumption | decide) (by first | assumption | rfl) rfl (by omega) ?_
        refine tr_iload_n dX6_kind_20 rfl ?_
        refine tr_bald dX6_kind_21 (by first | assumption | decide) (by first | assumption | rfl) rfl (by omega) (by omega) (by first | assumption | rfl) ?_
        refine tr_getLet (host := "FlapBoard") dX6_kind_22 fl_RX6_19 ?_
        refine tr_iload_n dX6_kind_25 rfl ?_
        -- at 26: .iaload
        refine tr_letld dX6_kind_26 rfl (by omega) ?_
        refine tr_icmp_ne (tgt := 32) dX6_kind_27 (by decide) (fun h3 => ?_) (fun h3 => ?_)
        · first | with_reducible refine tr_iincN_2 dX6_kind_32 (by decide) rfl ?_ | refine tr_iinc_2 dX6_kind_32 (by decide) rfl ?_
          refine tr_goto (tgt := 2) dX6_kind_35 (by decide) ?_
          -- at 2: .iload_n 2
          exact l_kind hR' hr' hp (m - 1) (i + 1) (by omega) (fun q h => by
            by_cases e : q = i
            · subst e; exact h3
            · exact hq q (by omega))
        · refine tr_iload_n dX6_kind_30 rfl ?_
          -- at 31: .ireturn
          refine tr_iret dX6_kind_31 (by first | exact trivial | rfl) ⟨rfl, by rw [kind_step _ i h1 hq h3]; rfl⟩
  termination_by m => m
theorem c_kind {p : Nat} (hR : isT a) (hr : XR 60 μ a (some (n, f))) (hp : p < n) : cp X (d + 1) kX6_kind [.ref a, .int (nI p)] μ (qi (fun v μ' => μ' = μ ∧ v = kdR (kdV (f p)))) := by
  refine cp_of ok_X6_kind (L := [.ref a, .int (nI p), .float 0]) rfl ?_
  refine tr_iconst (v := nI 0) dX6_kind_0 (by decide) ?_
  refine tr_istore_n_2 dX6_kind_1 (by decide) rfl ?_
  -- at 2: .iload_n 2
  exact l_kind hR hr hp 6 0 (by omega) (fun q h => by omega)
theorem l_past {p : Nat} (hR : isT a) (hr : XR 60 μ a (some (n, f))) : ∀ (m i : Nat), i + m = n → skS n f i = skS n f p → tw X d kX6_pastBlanks (qi (fun v μ' => μ' = μ ∧ v = nI (skS n f p))) 2 [.ref a, .int (nI p), .int (nI i)] [] μ
  | m, i, him, hq => by
    have hR' := hR
    have hr' := hr
    obtain ⟨⟨i0, i1⟩, s0, s1⟩ := hR
    obtain ⟨r1, r2, r3⟩ := hr
    refine tr_iload_n dX6_pastBlanks_2 rfl ?_
    refine tr_aload_n dX6_pastBlanks_3 rfl ?_
    refine tr_getI dX6_pastBlanks_4 fg_RX6_15 (by first | assumption | decide) (by first | assumption | rfl) rfl (by first | assumption | rfl) ?_
    -- at 7: .if_icmp .ge 20
    refine tr_geN (tgt := 27) dX6_pastBlanks_7 (by decide) (by omega) (by omega) (fun h1 => ?_) (fun h1 => ?_)
    · refine tr_iload_n dX6_pastBlanks_27 rfl ?_
      -- at 28: .ireturn
      refine tr_iret dX6_pastBlanks_28 (by first | exact trivial | rfl) ⟨rfl, by rw [← hq, skS_stop (by omega)]⟩
    · have r4 := r3 i h1
      refine tr_aload_n dX6_pastBlanks_10 rfl ?_
      refine tr_getR dX6_pastBlanks_11 fg_RX6_9 (by first | assumption | decide) (by first | assumption | rfl) rfl (by omega) ?_
      refine tr_iload_n dX6_pastBlanks_14 rfl ?_
      refine tr_bald dX6_pastBlanks_15 (by first | assumption | decide) (by first | assumption | rfl) rfl (by omega) (by omega) (by first | assumption | rfl) ?_
      refine tr_bipush (v := nI 32) dX6_pastBlanks_16 (by decide) ?_
      -- at 18: .if_icmp .ne 9
      refine tr_icmp_ne (tgt := 27) dX6_pastBlanks_18 (by decide) (fun h2 => ?_) (fun h2 => ?_)
      · refine tr_iload_n dX6_pastBlanks_27 rfl ?_
        -- at 28: .ireturn
        refine tr_iret dX6_pastBlanks_28 (by first | exact trivial | rfl) ⟨rfl, by rw [← hq, skS_stop (fun q => h2 q.2)]⟩
      · first | with_reducible refine tr_iincN_2 dX6_pastBlanks_21 (by decide) rfl ?_ | refine tr_iinc_2 dX6_pastBlanks_21 (by decide) rfl ?_
        refine tr_goto (tgt := 2) dX6_pastBlanks_24 (by decide) ?_
        -- at 2: .iload_n 2
        exact l_past hR' hr' (m - 1) (i + 1) (by omega) (by rw [← skS_go h1 h2]; exact hq)
  termination_by m => m
theorem c_past {p : Nat} (hp : p ≤ n) (hR : isT a) (hr : XR 60 μ a (some (n, f))) : cp X (d + 1) kX6_pastBlanks [.ref a, .int (nI p)] μ (qi (fun v μ' => μ' = μ ∧ v = nI (skS n f p))) := by
  refine cp_of ok_X6_pastBlanks (L := [.ref a, .int (nI p), .float 0]) rfl ?_
  refine tr_iload_n dX6_pastBlanks_0 rfl ?_
  refine tr_istore_n_2 dX6_pastBlanks_1 (by decide) rfl ?_
  -- at 2: .iload_n 2
  exact l_past hR hr (n - p) p (by omega) rfl
end RT
