-- ===== Share, JDK members, raised =====
def euM : Nat → Nat → Nat → Nat
  | 0, a, _ => a
  | m + 1, a, b => if b = 0 then a else euM m b (a % b)
theorem euM_0 : ∀ (m a : Nat), euM m a 0 = a
  | 0, a => rfl
  | m + 1, a => by rw [euM, if_pos rfl]
theorem euM_gcd : ∀ (k a b m : Nat), b < 2 ^ k → 2 * k + 1 ≤ m → euM m a b = Nat.gcd a b
  | 0, a, b, m, hb, hm => by
    have : b = 0 := by simpa using hb
    subst this
    rw [euM_0, Nat.gcd_zero_right]
  | k + 1, a, b, m, hb, hm => by
    obtain ⟨m', rfl⟩ : ∃ m', m = m' + 2 := ⟨m - 2, by omega⟩
    by_cases h0 : b = 0
    · subst h0; rw [euM_0, Nat.gcd_zero_right]
    · rw [show m' + 2 = (m' + 1) + 1 from rfl, euM, if_neg h0]
      by_cases h1 : a % b = 0
      · rw [h1, euM_0, Nat.gcd_comm, Nat.gcd_rec, h1, Nat.gcd_zero_left]
      · rw [euM, if_neg h1]
        have hr : a % b < b := Nat.mod_lt _ (by omega)
        have hlt : b % (a % b) < 2 ^ k := by
          rw [Nat.pow_succ] at hb
          rcases Nat.lt_or_ge (2 * (a % b)) (b + 1) with hs | hs
          · have := Nat.mod_lt b (show 0 < a % b by omega)
            omega
          · have e : b % (a % b) = b - (a % b) := by
              rw [Nat.mod_eq_sub_mod (by omega), Nat.mod_eq_of_lt (by omega)]
            omega
        rw [euM_gcd k (a % b) (b % (a % b)) m' hlt (by omega)]
        rw [Nat.gcd_comm (a % b), ← Nat.gcd_rec, Nat.gcd_comm (a % b) b, Nat.gcd_comm b (a % b), ← Nat.gcd_rec, Nat.gcd_comm]
section SH
variable {X : Nat × (Nat → Int32)} {d : Nat} {μ : am_M} {a b i n : Nat}
theorem l_gcd {A B : Int64} : ∀ (m i a b : Nat) (w : Value), i + m = 200 → a < 2 ^ 60 → b < 2 ^ 60 → tw X d kX5_commonDivisor (ql (fun v μ' => μ' = μ ∧ v = lN (euM m a b))) 9 [.long A, .float 0, .long B, .float 0, .long (lN a), .float 0, .long (lN b), .float 0, .int (nI i), w, .float 0] [] μ
  | m, i, a, b, w, him, ha, hb => by
    refine tr_iload dX5_commonDivisor_9 rfl ?_
    refine tr_sipush (v := nI 200) dX5_commonDivisor_11 (by decide) ?_
    -- at 14: .if_icmp .ge 31
    refine tr_geN (tgt := 45) dX5_commonDivisor_14 (by decide) (by omega) (by omega) (fun h1 => ?_) (fun h1 => ?_)
    · obtain rfl : m = 0 := by omega
      refine tr_lload dX5_commonDivisor_45 rfl ?_
      -- at 47: .lreturn
      refine tr_lret dX5_commonDivisor_47 (by first | exact trivial | rfl) ⟨rfl, rfl⟩
    · obtain ⟨m', rfl⟩ : ∃ m', m = m' + 1 := ⟨m - 1, by omega⟩
      refine tr_lload dX5_commonDivisor_17 rfl ?_
      refine tr_lconst (v := lN 0) dX5_commonDivisor_19 (by decide) ?_
      refine tr_lcmp dX5_commonDivisor_20 ?_
      -- at 21: .ifCond .eq 24
      refine tr_if_eq (tgt := 45) dX5_commonDivisor_21 (by decide) (fun h2 => ?_) (fun h2 => ?_)
      · have h2' : b = 0 := (pk_lEQ (by omega) (by omega)).mp ((lg_cmp_eq _ _).mp h2)
        refine tr_lload dX5_commonDivisor_45 rfl ?_
        -- at 47: .lreturn
        refine tr_lret dX5_commonDivisor_47 (by first | exact trivial | rfl) ⟨rfl, by rw [euM, if_pos h2']⟩
      · have h2' : b ≠ 0 := fun q => h2 ((lg_cmp_eq _ _).mpr (by rw [q]))
        refine tr_lload dX5_commonDivisor_24 rfl ?_
        refine tr_lload dX5_commonDivisor_26 rfl ?_
        -- at 28: .lrem
        refine tr_lrem dX5_commonDivisor_28 (fun q => h2' ((pk_lEQ (b := 0) (by omega) (by omega)).mp q)) ?_
        rw [pk_lRem (by omega) (by omega) (by omega)]
        refine tr_lstore_9 dX5_commonDivisor_29 (by decide) rfl ?_
        refine tr_lload dX5_commonDivisor_31 rfl ?_
        refine tr_lstore_4 dX5_commonDivisor_33 (by decide) rfl ?_
        refine tr_lload dX5_commonDivisor_35 rfl ?_
        refine tr_lstore_6 dX5_commonDivisor_37 (by decide) rfl ?_
        first | with_reducible refine tr_iincN_8 dX5_commonDivisor_39 (by decide) rfl ?_ | refine tr_iinc_8 dX5_commonDivisor_39 (by decide) rfl ?_
        refine tr_goto (tgt := 9) dX5_commonDivisor_42 (by decide) ?_
        -- at 9: .iload 8
        have e : euM (m' + 1) a b = euM m' b (a % b) := by rw [euM, if_neg h2']
        rw [e]
        exact l_gcd m' (i + 1) b (a % b) _ (by omega) hb (Nat.lt_of_le_of_lt (Nat.mod_le _ _) ha)
  termination_by m => m
theorem c_gcd (ha : a < 2 ^ 60) (hb : b < 2 ^ 40) : cp X (d + 1) kX5_commonDivisor [.long (lN a), .long (lN b)] μ (ql (fun v μ' => μ' = μ ∧ v = lN (Nat.gcd a b))) := by
  refine cp_of ok_X5_commonDivisor (L := [.long (lN a), .float 0, .long (lN b), .float 0, .float 0, .float 0, .float 0, .float 0, .float 0, .float 0, .float 0]) rfl ?_
  refine tr_lload_n dX5_commonDivisor_0 rfl ?_
  refine tr_lstore_4 dX5_commonDivisor_1 (by decide) rfl ?_
  refine tr_lload_n dX5_commonDivisor_3 rfl ?_
  refine tr_lstore_6 dX5_commonDivisor_4 (by decide) rfl ?_
  refine tr_iconst (v := nI 0) dX5_commonDivisor_6 (by decide) ?_
  refine tr_istore_8 dX5_commonDivisor_7 (by decide) rfl ?_
  -- at 9: .iload 8
  rw [← euM_gcd 40 a b 200 hb (by omega)]
  exact l_gcd 200 0 a b _ (by omega) ha (by omega)
def samJ (μ μ' : am_M) (b : Nat) : Prop := μ'.1 = μ.1 ∧ ∀ q, q ≠ b → μ'.2 q = μ.2 q
theorem c_tell (ha : a < 2 ^ 60) (hb : b < 2 ^ 40) (h0 : 0 < b) : cp X (d + 2) kX5_tell [.ref 71, .long (lN a), .long (lN b)] μ (qv (fun μ' => samJ μ μ' 71 ∧ μ'.2 71 0 = lN (a / Nat.gcd a b) ∧ μ'.2 71 1 = lN (b / Nat.gcd a b))) := by
  have hg : 0 < Nat.gcd a b := Nat.gcd_pos_of_pos_right _ h0
  have hg2 : Nat.gcd a b ≤ b := Nat.le_of_dvd h0 (Nat.gcd_dvd_right a b)
  refine cp_of ok_X5_tell (L := [.ref 71, .long (lN a), .float 0, .long (lN b), .float 0, .float 0, .float 0]) rfl ?_
  refine tr_lload_n dX5_tell_0 rfl ?_
  refine tr_lload_n dX5_tell_1 rfl ?_
  -- at 2: .invokestatic 16
  refine tr_Sl (As := [_, _]) dX5_tell_2 fm_RX5_16 rfl rfl (Nat.le_of_ble_eq_true rfl) (c_gcd (d := d) ha hb) (fun v μ1 ⟨e1, e2⟩ => ?_)
  subst μ1; subst v
  refine tr_lstore_5 dX5_tell_5 (by decide) rfl ?_
  refine tr_lload dX5_tell_7 rfl ?_
  refine tr_lconst (v := lN 0) dX5_tell_9 (by decide) ?_
  refine tr_lcmp dX5_tell_10 ?_
  -- at 11: .ifCond .le 19
  refine tr_if_le (tgt := 30) dX5_tell_11 (by decide) (fun h1 => ?_) (fun h1 => ?_)
  · have := (pk_lLE (b := 0) (by omega) (by omega)).mp ((lg_cmp_le _ _).mp h1)
    omega
  · refine tr_aload_n dX5_tell_14 rfl ?_
    refine tr_lload_n dX5_tell_15 rfl ?_
    refine tr_lload dX5_tell_16 rfl ?_
    -- at 18: .ldiv
    refine tr_ldiv dX5_tell_18 (fun q => by have := (pk_lEQ (b := 0) (by omega) (by omega)).mp q; omega) ?_
    rw [pk_lDiv (by omega) hg (by omega)]
    refine tr_putJ dX5_tell_19 fp_RX5_7 (by first | assumption | decide) (by first | assumption | rfl) rfl ?_
    refine tr_aload_n dX5_tell_22 rfl ?_
    refine tr_lload_n dX5_tell_23 rfl ?_
    refine tr_lload dX5_tell_24 rfl ?_
    -- at 26: .ldiv
    refine tr_ldiv dX5_tell_26 (fun q => by have := (pk_lEQ (b := 0) (by omega) (by omega)).mp q; omega) ?_
    rw [pk_lDiv (by omega) hg (by omega)]
    refine tr_putJ dX5_tell_27 fp_RX5_13 (by first | assumption | decide) (by first | assumption | rfl) rfl ?_
    -- at 30: .return_
    refine tr_vret dX5_tell_30 (by first | exact trivial | rfl) ⟨⟨rfl, fun q hq => by rw [sJ_ne _ _ hq, sJ_ne _ _ hq]⟩, ?_, ?_⟩
    · rw [sJ_same, pk_uLn (by omega), sJ_same, pk_uLs]
    · rw [sJ_same, pk_uLs]
-- JDK
theorem c_max (ha : a < 2 ^ 31) (hb : b < 2 ^ 31) : cp X (d + 1) kJ9_max_7cf53 [.int (nI a), .int (nI b)] μ (qi (fun v μ' => μ' = μ ∧ v = nI (max a b))) := by
  refine cp_of ok_J9_max_7cf53 (L := [.int (nI a), .int (nI b)]) rfl ?_
  refine tr_iload_n dJ9_max_7cf53_0 rfl ?_
  refine tr_iload_n dJ9_max_7cf53_1 rfl ?_
  -- at 2: .if_icmp .lt 7
  refine tr_ltN (tgt := 9) dJ9_max_7cf53_2 (by decide) (by omega) (by omega) (fun h => ?_) (fun h => ?_)
  · refine tr_iload_n dJ9_max_7cf53_9 rfl ?_
    -- at 10: .ireturn
    refine tr_iret dJ9_max_7cf53_10 (by first | exact trivial | rfl) ⟨rfl, by rw [Nat.max_eq_right (by omega)]⟩
  · refine tr_iload_n dJ9_max_7cf53_5 rfl ?_
    refine tr_goto (tgt := 10) dJ9_max_7cf53_6 (by decide) ?_
    -- at 10: .ireturn
    refine tr_iret dJ9_max_7cf53_10 (by first | exact trivial | rfl) ⟨rfl, by rw [Nat.max_eq_left h]⟩
theorem c_maxI {x y : Int32} : cp X (d + 1) kJ9_max_7cf53 [.int x, .int y] μ (qi (fun v μ' => μ' = μ ∧ v = if x < y then y else x)) := by
  refine cp_of ok_J9_max_7cf53 (L := [.int x, .int y]) rfl ?_
  refine tr_iload_n dJ9_max_7cf53_0 rfl ?_
  refine tr_iload_n dJ9_max_7cf53_1 rfl ?_
  -- at 2: .if_icmp .lt 7
  refine tr_icmp_lt (tgt := 9) dJ9_max_7cf53_2 (by decide) (fun h => ?_) (fun h => ?_)
  · refine tr_iload_n dJ9_max_7cf53_9 rfl ?_
    -- at 10: .ireturn
    refine tr_iret dJ9_max_7cf53_10 (by first | exact trivial | rfl) ⟨rfl, by rw [if_pos h]⟩
  · refine tr_iload_n dJ9_max_7cf53_5 rfl ?_
    refine tr_goto (tgt := 10) dJ9_max_7cf53_6 (by decide) ?_
    -- at 10: .ireturn
    refine tr_iret dJ9_max_7cf53_10 (by first | exact trivial | rfl) ⟨rfl, by rw [if_neg h]⟩
def onesM : Nat → Nat → Nat
  | 0, _ => 0
  | k + 1, m => onesM k m + (if m.testBit k then 1 else 0)
def bcI (x0 : Int32) : Int32 :=
  let x1 := x0 - ((x0.toUInt32 >>> ((nI 1).toUInt32 &&& Int32.toUInt32 31)).toInt32 &&& 1431655765)
  let x2 := (x1 &&& 858993459) + ((x1.toUInt32 >>> ((nI 2).toUInt32 &&& Int32.toUInt32 31)).toInt32 &&& 858993459)
  let x3 := (x2 + (x2.toUInt32 >>> ((nI 4).toUInt32 &&& Int32.toUInt32 31)).toInt32) &&& 252645135
  let x4 := x3 + (x3.toUInt32 >>> ((nI 8).toUInt32 &&& Int32.toUInt32 31)).toInt32
  let x5 := x4 + (x4.toUInt32 >>> ((nI 16).toUInt32 &&& Int32.toUInt32 31)).toInt32
  x5 &&& nI 63
theorem bc_ones : ∀ m, m < 1024 → bcI (nI m) = nI (onesM 10 m) := by decide +kernel
theorem onesM_7 : ∀ m, m < 128 → onesM 10 m = onesM 7 m := by decide +kernel
theorem onesM_le : ∀ m, m < 128 → onesM 7 m ≤ 7 := by decide +kernel
theorem c_bitCount {m : Nat} (hm : m < 1024) : cp X (d + 1) kJ6_bitCount_0f7a4 [.int (nI m)] μ (qi (fun v μ' => μ' = μ ∧ v = nI (onesM 10 m))) := by
  refine cp_of ok_J6_bitCount_0f7a4 (L := [.int (nI m)]) rfl ?_
  refine tr_iload_n dJ6_bitCount_0f7a4_0 rfl ?_
  refine tr_iload_n dJ6_bitCount_0f7a4_1 rfl ?_
  -- at 2: .iconst 1
  refine tr_iconst (v := nI 1) dJ6_bitCount_0f7a4_2 (by decide) ?_
  refine tr_iushr dJ6_bitCount_0f7a4_3 ?_
  refine tr_ldc_w (v := 1431655765) dJ6_bitCount_0f7a4_4 fk_RJ6_265 ?_
  refine tr_iand dJ6_bitCount_0f7a4_7 ?_
  -- at 8: .isub
  refine tr_isub dJ6_bitCount_0f7a4_8 ?_
  refine tr_istore_n_0 dJ6_bitCount_0f7a4_9 (by decide) ?_
  refine tr_iload_n dJ6_bitCount_0f7a4_10 rfl ?_
  refine tr_ldc_w (v := 858993459) dJ6_bitCount_0f7a4_11 fk_RJ6_266 ?_
  refine tr_iand dJ6_bitCount_0f7a4_14 ?_
  refine tr_iload_n dJ6_bitCount_0f7a4_15 rfl ?_
  refine tr_iconst (v := nI 2) dJ6_bitCount_0f7a4_16 (by decide) ?_
  refine tr_iushr dJ6_bitCount_0f7a4_17 ?_
  refine tr_ldc_w (v := 858993459) dJ6_bitCount_0f7a4_18 fk_RJ6_266 ?_
  refine tr_iand dJ6_bitCount_0f7a4_21 ?_
  -- at 22: .iadd
  refine tr_iadd dJ6_bitCount_0f7a4_22 ?_
  refine tr_istore_n_0 dJ6_bitCount_0f7a4_23 (by decide) ?_
  refine tr_iload_n dJ6_bitCount_0f7a4_24 rfl ?_
  refine tr_iload_n dJ6_bitCount_0f7a4_25 rfl ?_
  refine tr_iconst (v := nI 4) dJ6_bitCount_0f7a4_26 (by decide) ?_
  refine tr_iushr dJ6_bitCount_0f7a4_27 ?_
  -- at 28: .iadd
  refine tr_iadd dJ6_bitCount_0f7a4_28 ?_
  refine tr_ldc_w (v := 252645135) dJ6_bitCount_0f7a4_29 fk_RJ6_267 ?_
  refine tr_iand dJ6_bitCount_0f7a4_32 ?_
  refine tr_istore_n_0 dJ6_bitCount_0f7a4_33 (by decide) ?_
  refine tr_iload_n dJ6_bitCount_0f7a4_34 rfl ?_
  refine tr_iload_n dJ6_bitCount_0f7a4_35 rfl ?_
  refine tr_bipush (v := nI 8) dJ6_bitCount_0f7a4_36 (by decide) ?_
  refine tr_iushr dJ6_bitCount_0f7a4_38 ?_
  -- at 39: .iadd
  refine tr_iadd dJ6_bitCount_0f7a4_39 ?_
  refine tr_istore_n_0 dJ6_bitCount_0f7a4_40 (by decide) ?_
  refine tr_iload_n dJ6_bitCount_0f7a4_41 rfl ?_
  refine tr_iload_n dJ6_bitCount_0f7a4_42 rfl ?_
  refine tr_bipush (v := nI 16) dJ6_bitCount_0f7a4_43 (by decide) ?_
  refine tr_iushr dJ6_bitCount_0f7a4_45 ?_
  -- at 46: .iadd
  refine tr_iadd dJ6_bitCount_0f7a4_46 ?_
  refine tr_istore_n_0 dJ6_bitCount_0f7a4_47 (by decide) ?_
  refine tr_iload_n dJ6_bitCount_0f7a4_48 rfl ?_
  refine tr_bipush (v := nI 63) dJ6_bitCount_0f7a4_49 (by decide) ?_
  refine tr_iand dJ6_bitCount_0f7a4_51 ?_
  -- at 52: .ireturn
  refine tr_iret dJ6_bitCount_0f7a4_52 (by first | exact trivial | rfl) ⟨rfl, bc_ones m hm⟩
theorem fmod_ok : ∀ a, a < 10 → ∀ b, b < 10 → (nI a - nI b) - (nI a - nI b) / nI 10 * nI 10 = (if b ≤ a then nI (a - b) else -(nI (b - a))) := by decide +kernel
theorem c_fmod (ha : a < 10) (hb : b < 10) : cp X (d + 1) kJ9_floorMod_7cf53 [.int (nI a - nI b), .int (nI 10)] μ (qi (fun v μ' => μ' = μ ∧ v = nI ((a + 10 - b) % 10))) := by
  have key : ∀ a, a < 10 → ∀ b, b < 10 → ((0 ≤ (nI a - nI b) ^^^ nI 10 → (nI a - nI b) - (nI a - nI b) / nI 10 * nI 10 = nI ((a + 10 - b) % 10)) ∧ ((nI a - nI b) - (nI a - nI b) / nI 10 * nI 10 = 0 → (nI a - nI b) - (nI a - nI b) / nI 10 * nI 10 = nI ((a + 10 - b) % 10)) ∧ (¬ 0 ≤ (nI a - nI b) ^^^ nI 10 → (nI a - nI b) - (nI a - nI b) / nI 10 * nI 10 + nI 10 = nI ((a + 10 - b) % 10))) := by decide +kernel
  obtain ⟨k1, k2, k3⟩ := key a ha b hb
  refine cp_of ok_J9_floorMod_7cf53 (L := [.int (nI a - nI b), .int (nI 10), .float 0]) rfl ?_
  refine tr_iload_n dJ9_floorMod_7cf53_0 rfl ?_
  refine tr_iload_n dJ9_floorMod_7cf53_1 rfl ?_
  -- at 2: .irem
  refine tr_irem dJ9_floorMod_7cf53_2 (by decide) ?_
  refine tr_istore_n_2 dJ9_floorMod_7cf53_3 (by decide) rfl ?_
  refine tr_iload_n dJ9_floorMod_7cf53_4 rfl ?_
  refine tr_iload_n dJ9_floorMod_7cf53_5 rfl ?_
  refine tr_ixor dJ9_floorMod_7cf53_6 ?_
  -- at 7: .ifCond .ge 11
  refine tr_if_ge (tgt := 18) dJ9_floorMod_7cf53_7 (by decide) (fun h1 => ?_) (fun h1 => ?_)
  · refine tr_iload_n dJ9_floorMod_7cf53_18 rfl ?_
    -- at 19: .ireturn
    refine tr_iret dJ9_floorMod_7cf53_19 (by first | exact trivial | rfl) ⟨rfl, k1 h1⟩
  · refine tr_iload_n dJ9_floorMod_7cf53_10 rfl ?_
    -- at 11: .ifCond .eq 7
    refine tr_if_eq (tgt := 18) dJ9_floorMod_7cf53_11 (by decide) (fun h2 => ?_) (fun h2 => ?_)
    · refine tr_iload_n dJ9_floorMod_7cf53_18 rfl ?_
      -- at 19: .ireturn
      refine tr_iret dJ9_floorMod_7cf53_19 (by first | exact trivial | rfl) ⟨rfl, k2 h2⟩
    · refine tr_iload_n dJ9_floorMod_7cf53_14 rfl ?_
      refine tr_iload_n dJ9_floorMod_7cf53_15 rfl ?_
      -- at 16: .iadd
      refine tr_iadd dJ9_floorMod_7cf53_16 ?_
      refine tr_iret dJ9_floorMod_7cf53_17 (by first | exact trivial | rfl) ⟨rfl, k3 h1⟩
theorem l_raised {p e : Nat} (he : e < 100) : ∀ (m i : Nat), i + m = e → tw X d kX7_raised (qi (fun v μ' => μ' = μ ∧ v = nI (p ^ e))) 4 [.int (nI p), .int (nI e), .int (nI (p ^ i)), .int (nI i)] [] μ
  | m, i, him => by
    refine tr_iload_n dX7_raised_4 rfl ?_
    refine tr_iload_n dX7_raised_5 rfl ?_
    -- at 6: .if_icmp .ge 13
    refine tr_geN (tgt := 19) dX7_raised_6 (by decide) (by omega) (by omega) (fun h1 => ?_) (fun h1 => ?_)
    · refine tr_iload_n dX7_raised_19 rfl ?_
      -- at 20: .ireturn
      refine tr_iret dX7_raised_20 (by first | exact trivial | rfl) ⟨rfl, by rw [show i = e by omega]⟩
    · refine tr_iload_n dX7_raised_9 rfl ?_
      refine tr_iload_n dX7_raised_10 rfl ?_
      first | with_reducible refine tr_imulN dX7_raised_11 ?_ | refine tr_imul dX7_raised_11 ?_
      refine tr_istore_n_2 dX7_raised_12 (by decide) rfl ?_
      first | with_reducible refine tr_iincN_3 dX7_raised_13 (by decide) rfl ?_ | refine tr_iinc_3 dX7_raised_13 (by decide) rfl ?_
      refine tr_goto (tgt := 4) dX7_raised_16 (by decide) ?_
      -- at 4: .iload_n 3
      rw [← Nat.pow_succ]
      exact l_raised he (m - 1) (i + 1) (by omega)
  termination_by m => m
theorem c_raised {p e : Nat} (he : e < 100) : cp X (d + 1) kX7_raised [.int (nI p), .int (nI e)] μ (qi (fun v μ' => μ' = μ ∧ v = nI (p ^ e))) := by
  refine cp_of ok_X7_raised (L := [.int (nI p), .int (nI e), .float 0, .float 0]) rfl ?_
  refine tr_iconst (v := nI 1) dX7_raised_0 (by decide) ?_
  refine tr_istore_n_2 dX7_raised_1 (by decide) rfl ?_
  refine tr_iconst (v := nI 0) dX7_raised_2 (by decide) ?_
  refine tr_istore_n_3 dX7_raised_3 (by decide) rfl ?_
  -- at 4: .iload_n 3
  exact l_raised he e 0 (by omega)
end SH
