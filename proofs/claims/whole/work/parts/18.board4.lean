-- ===== Board: become, begin, addDrum, carryOut; Deeds =====
section B4
variable {X : Nat × (Nat → Int32)} {d : Nat} {μ : am_M} {a b i : Nat} {c : NF}
theorem c_become (hA : isB a) (hB : isB b) (hab : a + 4 < b ∨ b + 4 < a) (hr : BR μ b c) (hw : wfc c) : cp X (d + 1) kX0_become [.ref a, .ref b] μ (qv (fun μ' => same μ μ' [a, a + 1, a + 2, a + 3, a + 4] ∧ BR μ' a c)) := by
  obtain ⟨⟨i0, i1, i2, i3, i4⟩, s0, s1, s2, s3, s4⟩ := hA
  obtain ⟨⟨j0, j1, j2, j3, j4⟩, z0, z1, z2, z3, z4⟩ := hB
  have hw1 := hw.1
  have hn0 : b ∉ [a, a + 1, a + 2, a + 3, a + 4] := by simp; omega
  have hn1 : b + 1 ∉ [a, a + 1, a + 2, a + 3, a + 4] := by simp; omega
  have hn2 : b + 2 ∉ [a, a + 1, a + 2, a + 3, a + 4] := by simp; omega
  have hn3 : b + 3 ∉ [a, a + 1, a + 2, a + 3, a + 4] := by simp; omega
  have hn4 : b + 4 ∉ [a, a + 1, a + 2, a + 3, a + 4] := by simp; omega
  have r4 := hr.1
  have hs0 := same.rf μ [a, a + 1, a + 2, a + 3, a + 4]
  refine cp_of ok_X0_become (L := [.ref a, .ref b]) rfl ?_
  refine tr_aload_n dX0_become_0 rfl ?_
  refine tr_getR dX0_become_1 fg_RX0_9 (by first | assumption | decide) (by first | assumption | rfl) rfl (by omega) ?_
  refine tr_iconst (v := nI 0) dX0_become_4 (by decide) ?_
  refine tr_aload_n dX0_become_5 rfl ?_
  refine tr_getR dX0_become_6 fg_RX0_9 (by first | assumption | decide) (by first | assumption | rfl) rfl (by omega) ?_
  refine tr_iconst (v := nI 0) dX0_become_9 (by decide) ?_
  refine tr_aload_n dX0_become_10 rfl ?_
  refine tr_getI dX0_become_11 fg_RX0_24 (by first | assumption | decide) (by first | assumption | rfl) rfl (by first | assumption | rfl) ?_
  -- at 14: .invokestatic 28
  refine tr_acopy dX0_become_14 fa_RX0_28 (by first | assumption | decide) (by first | assumption | decide) (by first | assumption | rfl) (by first | assumption | rfl) rfl rfl rfl (by omega) (by omega) (by omega) (by omega) (Nat.le_of_ble_eq_true rfl) ?_
  have hs1 := hs0.put (a := a + 1) (va_cpy (μ.1 (b + 1)) (μ.1 (a + 1)) 0 0 (c 18)) (by simp)
  have kp1 : (sI μ (a + 1) (va_cpy (μ.1 (b + 1)) (μ.1 (a + 1)) 0 0 (c 18))).1 (a + 1) = va_cpy (μ.1 (b + 1)) (μ.1 (a + 1)) 0 0 (c 18) := sI_same _ _ _
  generalize sI μ (a + 1) (va_cpy (μ.1 (b + 1)) (μ.1 (a + 1)) 0 0 (c 18)) = μ1 at hs1 kp1 ⊢
  rw [hs0.1 (b + 1) hn1] at kp1
  have ki1 := kp1
  have r4 : μ1.1 b 4 = nI (c 18) := by rw [hs1.1 b hn0]; exact hr.1
  refine tr_aload_n dX0_become_17 rfl ?_
  refine tr_getR dX0_become_18 fg_RX0_15 (by first | assumption | decide) (by first | assumption | rfl) rfl (by omega) ?_
  refine tr_iconst (v := nI 0) dX0_become_21 (by decide) ?_
  refine tr_aload_n dX0_become_22 rfl ?_
  refine tr_getR dX0_become_23 fg_RX0_15 (by first | assumption | decide) (by first | assumption | rfl) rfl (by omega) ?_
  refine tr_iconst (v := nI 0) dX0_become_26 (by decide) ?_
  refine tr_aload_n dX0_become_27 rfl ?_
  refine tr_getI dX0_become_28 fg_RX0_24 (by first | assumption | decide) (by first | assumption | rfl) rfl (by first | assumption | rfl) ?_
  -- at 31: .invokestatic 28
  refine tr_acopy dX0_become_31 fa_RX0_28 (by first | assumption | decide) (by first | assumption | decide) (by first | assumption | rfl) (by first | assumption | rfl) rfl rfl rfl (by omega) (by omega) (by omega) (by omega) (Nat.le_of_ble_eq_true rfl) ?_
  have hs2 := hs1.put (a := a + 2) (va_cpy (μ1.1 (b + 2)) (μ1.1 (a + 2)) 0 0 (c 18)) (by simp)
  have kp2 : (sI μ1 (a + 2) (va_cpy (μ1.1 (b + 2)) (μ1.1 (a + 2)) 0 0 (c 18))).1 (a + 2) = va_cpy (μ1.1 (b + 2)) (μ1.1 (a + 2)) 0 0 (c 18) := sI_same _ _ _
  have kp1 : (sI μ1 (a + 2) (va_cpy (μ1.1 (b + 2)) (μ1.1 (a + 2)) 0 0 (c 18))).1 (a + 1) = μ1.1 (a + 1) := sI_ne _ _ (by omega)
  rw [ki1] at kp1
  generalize sI μ1 (a + 2) (va_cpy (μ1.1 (b + 2)) (μ1.1 (a + 2)) 0 0 (c 18)) = μ2 at hs2 kp1 kp2 ⊢
  rw [hs1.1 (b + 2) hn2] at kp2
  have ki1 := kp1
  have ki2 := kp2
  have r4 : μ2.1 b 4 = nI (c 18) := by rw [hs2.1 b hn0]; exact hr.1
  refine tr_aload_n dX0_become_34 rfl ?_
  refine tr_getR dX0_become_35 fg_RX0_18 (by first | assumption | decide) (by first | assumption | rfl) rfl (by omega) ?_
  refine tr_iconst (v := nI 0) dX0_become_38 (by decide) ?_
  refine tr_aload_n dX0_become_39 rfl ?_
  refine tr_getR dX0_become_40 fg_RX0_18 (by first | assumption | decide) (by first | assumption | rfl) rfl (by omega) ?_
  refine tr_iconst (v := nI 0) dX0_become_43 (by decide) ?_
  refine tr_aload_n dX0_become_44 rfl ?_
  refine tr_getI dX0_become_45 fg_RX0_24 (by first | assumption | decide) (by first | assumption | rfl) rfl (by first | assumption | rfl) ?_
  -- at 48: .invokestatic 28
  refine tr_acopy dX0_become_48 fa_RX0_28 (by first | assumption | decide) (by first | assumption | decide) (by first | assumption | rfl) (by first | assumption | rfl) rfl rfl rfl (by omega) (by omega) (by omega) (by omega) (Nat.le_of_ble_eq_true rfl) ?_
  have hs3 := hs2.put (a := a + 3) (va_cpy (μ2.1 (b + 3)) (μ2.1 (a + 3)) 0 0 (c 18)) (by simp)
  have kp3 : (sI μ2 (a + 3) (va_cpy (μ2.1 (b + 3)) (μ2.1 (a + 3)) 0 0 (c 18))).1 (a + 3) = va_cpy (μ2.1 (b + 3)) (μ2.1 (a + 3)) 0 0 (c 18) := sI_same _ _ _
  have kp1 : (sI μ2 (a + 3) (va_cpy (μ2.1 (b + 3)) (μ2.1 (a + 3)) 0 0 (c 18))).1 (a + 1) = μ2.1 (a + 1) := sI_ne _ _ (by omega)
  rw [ki1] at kp1
  have kp2 : (sI μ2 (a + 3) (va_cpy (μ2.1 (b + 3)) (μ2.1 (a + 3)) 0 0 (c 18))).1 (a + 2) = μ2.1 (a + 2) := sI_ne _ _ (by omega)
  rw [ki2] at kp2
  generalize sI μ2 (a + 3) (va_cpy (μ2.1 (b + 3)) (μ2.1 (a + 3)) 0 0 (c 18)) = μ3 at hs3 kp1 kp2 kp3 ⊢
  rw [hs2.1 (b + 3) hn3] at kp3
  have ki1 := kp1
  have ki2 := kp2
  have ki3 := kp3
  have r4 : μ3.1 b 4 = nI (c 18) := by rw [hs3.1 b hn0]; exact hr.1
  refine tr_aload_n dX0_become_51 rfl ?_
  refine tr_getR dX0_become_52 fg_RX0_21 (by first | assumption | decide) (by first | assumption | rfl) rfl (by omega) ?_
  refine tr_iconst (v := nI 0) dX0_become_55 (by decide) ?_
  refine tr_aload_n dX0_become_56 rfl ?_
  refine tr_getR dX0_become_57 fg_RX0_21 (by first | assumption | decide) (by first | assumption | rfl) rfl (by omega) ?_
  refine tr_iconst (v := nI 0) dX0_become_60 (by decide) ?_
  refine tr_aload_n dX0_become_61 rfl ?_
  refine tr_getI dX0_become_62 fg_RX0_24 (by first | assumption | decide) (by first | assumption | rfl) rfl (by first | assumption | rfl) ?_
  -- at 65: .invokestatic 28
  refine tr_acopy dX0_become_65 fa_RX0_28 (by first | assumption | decide) (by first | assumption | decide) (by first | assumption | rfl) (by first | assumption | rfl) rfl rfl rfl (by omega) (by omega) (by omega) (by omega) (Nat.le_of_ble_eq_true rfl) ?_
  have hs4 := hs3.put (a := a + 4) (va_cpy (μ3.1 (b + 4)) (μ3.1 (a + 4)) 0 0 (c 18)) (by simp)
  have kp4 : (sI μ3 (a + 4) (va_cpy (μ3.1 (b + 4)) (μ3.1 (a + 4)) 0 0 (c 18))).1 (a + 4) = va_cpy (μ3.1 (b + 4)) (μ3.1 (a + 4)) 0 0 (c 18) := sI_same _ _ _
  have kp1 : (sI μ3 (a + 4) (va_cpy (μ3.1 (b + 4)) (μ3.1 (a + 4)) 0 0 (c 18))).1 (a + 1) = μ3.1 (a + 1) := sI_ne _ _ (by omega)
  rw [ki1] at kp1
  have kp2 : (sI μ3 (a + 4) (va_cpy (μ3.1 (b + 4)) (μ3.1 (a + 4)) 0 0 (c 18))).1 (a + 2) = μ3.1 (a + 2) := sI_ne _ _ (by omega)
  rw [ki2] at kp2
  have kp3 : (sI μ3 (a + 4) (va_cpy (μ3.1 (b + 4)) (μ3.1 (a + 4)) 0 0 (c 18))).1 (a + 3) = μ3.1 (a + 3) := sI_ne _ _ (by omega)
  rw [ki3] at kp3
  generalize sI μ3 (a + 4) (va_cpy (μ3.1 (b + 4)) (μ3.1 (a + 4)) 0 0 (c 18)) = μ4 at hs4 kp1 kp2 kp3 kp4 ⊢
  rw [hs3.1 (b + 4) hn4] at kp4
  have ki1 := kp1
  have ki2 := kp2
  have ki3 := kp3
  have ki4 := kp4
  have r4 : μ4.1 b 4 = nI (c 18) := by rw [hs4.1 b hn0]; exact hr.1
  obtain ⟨w4, w5, w6, w7, w8, rr⟩ := hr
  have r4 : μ4.1 b 4 = nI (c 18) := by rw [hs4.1 b hn0]; exact w4
  refine tr_aload_n dX0_become_68 rfl ?_
  refine tr_aload_n dX0_become_69 rfl ?_
  refine tr_getI dX0_become_70 fg_RX0_24 (by first | assumption | decide) (by first | assumption | rfl) rfl (by first | assumption | rfl) ?_
  refine tr_putI dX0_become_73 fp_RX0_24 (by first | assumption | decide) (by first | assumption | rfl) rfl ?_
  -- at 76: .aload_n 0
  have hs5 := hs4.put (a := a) (upd (μ4.1 a) 4 (nI (c 18))) (by simp)
  have kf4 : (sI μ4 a (upd (μ4.1 a) 4 (nI (c 18)))).1 a 4 = nI (c 18) := by rw [sI_same, pk_us]
  have kp1 : (sI μ4 a (upd (μ4.1 a) 4 (nI (c 18)))).1 (a + 1) = μ4.1 (a + 1) := sI_ne _ _ (by omega)
  rw [ki1] at kp1
  have kp2 : (sI μ4 a (upd (μ4.1 a) 4 (nI (c 18)))).1 (a + 2) = μ4.1 (a + 2) := sI_ne _ _ (by omega)
  rw [ki2] at kp2
  have kp3 : (sI μ4 a (upd (μ4.1 a) 4 (nI (c 18)))).1 (a + 3) = μ4.1 (a + 3) := sI_ne _ _ (by omega)
  rw [ki3] at kp3
  have kp4 : (sI μ4 a (upd (μ4.1 a) 4 (nI (c 18)))).1 (a + 4) = μ4.1 (a + 4) := sI_ne _ _ (by omega)
  rw [ki4] at kp4
  generalize sI μ4 a (upd (μ4.1 a) 4 (nI (c 18))) = μ5 at hs5 kf4 kp1 kp2 kp3 kp4 ⊢
  have kg4 := kf4
  have ki1 := kp1
  have ki2 := kp2
  have ki3 := kp3
  have ki4 := kp4
  have r5 : μ5.1 b 5 = nI (c 0) := by rw [hs5.1 b hn0]; exact w5
  refine tr_aload_n dX0_become_76 rfl ?_
  refine tr_aload_n dX0_become_77 rfl ?_
  refine tr_getI dX0_become_78 fg_RX0_34 (by first | assumption | decide) (by first | assumption | rfl) rfl (by first | assumption | rfl) ?_
  refine tr_putI dX0_become_81 fp_RX0_34 (by first | assumption | decide) (by first | assumption | rfl) rfl ?_
  -- at 84: .aload_n 0
  have hs6 := hs5.put (a := a) (upd (μ5.1 a) 5 (nI (c 0))) (by simp)
  have kf5 : (sI μ5 a (upd (μ5.1 a) 5 (nI (c 0)))).1 a 5 = nI (c 0) := by rw [sI_same, pk_us]
  have kf4 : (sI μ5 a (upd (μ5.1 a) 5 (nI (c 0)))).1 a 4 = nI (c 18) := by rw [sI_same, pk_un (by omega)]; exact kg4
  have kp1 : (sI μ5 a (upd (μ5.1 a) 5 (nI (c 0)))).1 (a + 1) = μ5.1 (a + 1) := sI_ne _ _ (by omega)
  rw [ki1] at kp1
  have kp2 : (sI μ5 a (upd (μ5.1 a) 5 (nI (c 0)))).1 (a + 2) = μ5.1 (a + 2) := sI_ne _ _ (by omega)
  rw [ki2] at kp2
  have kp3 : (sI μ5 a (upd (μ5.1 a) 5 (nI (c 0)))).1 (a + 3) = μ5.1 (a + 3) := sI_ne _ _ (by omega)
  rw [ki3] at kp3
  have kp4 : (sI μ5 a (upd (μ5.1 a) 5 (nI (c 0)))).1 (a + 4) = μ5.1 (a + 4) := sI_ne _ _ (by omega)
  rw [ki4] at kp4
  generalize sI μ5 a (upd (μ5.1 a) 5 (nI (c 0))) = μ6 at hs6 kf4 kf5 kp1 kp2 kp3 kp4 ⊢
  have kg4 := kf4
  have kg5 := kf5
  have ki1 := kp1
  have ki2 := kp2
  have ki3 := kp3
  have ki4 := kp4
  have r6 : μ6.1 b 6 = nI (c 1) := by rw [hs6.1 b hn0]; exact w6
  refine tr_aload_n dX0_become_84 rfl ?_
  refine tr_aload_n dX0_become_85 rfl ?_
  refine tr_getI dX0_become_86 fg_RX0_37 (by first | assumption | decide) (by first | assumption | rfl) rfl (by first | assumption | rfl) ?_
  refine tr_putI dX0_become_89 fp_RX0_37 (by first | assumption | decide) (by first | assumption | rfl) rfl ?_
  -- at 92: .aload_n 0
  have hs7 := hs6.put (a := a) (upd (μ6.1 a) 6 (nI (c 1))) (by simp)
  have kf6 : (sI μ6 a (upd (μ6.1 a) 6 (nI (c 1)))).1 a 6 = nI (c 1) := by rw [sI_same, pk_us]
  have kf4 : (sI μ6 a (upd (μ6.1 a) 6 (nI (c 1)))).1 a 4 = nI (c 18) := by rw [sI_same, pk_un (by omega)]; exact kg4
  have kf5 : (sI μ6 a (upd (μ6.1 a) 6 (nI (c 1)))).1 a 5 = nI (c 0) := by rw [sI_same, pk_un (by omega)]; exact kg5
  have kp1 : (sI μ6 a (upd (μ6.1 a) 6 (nI (c 1)))).1 (a + 1) = μ6.1 (a + 1) := sI_ne _ _ (by omega)
  rw [ki1] at kp1
  have kp2 : (sI μ6 a (upd (μ6.1 a) 6 (nI (c 1)))).1 (a + 2) = μ6.1 (a + 2) := sI_ne _ _ (by omega)
  rw [ki2] at kp2
  have kp3 : (sI μ6 a (upd (μ6.1 a) 6 (nI (c 1)))).1 (a + 3) = μ6.1 (a + 3) := sI_ne _ _ (by omega)
  rw [ki3] at kp3
  have kp4 : (sI μ6 a (upd (μ6.1 a) 6 (nI (c 1)))).1 (a + 4) = μ6.1 (a + 4) := sI_ne _ _ (by omega)
  rw [ki4] at kp4
  generalize sI μ6 a (upd (μ6.1 a) 6 (nI (c 1))) = μ7 at hs7 kf4 kf5 kf6 kp1 kp2 kp3 kp4 ⊢
  have kg4 := kf4
  have kg5 := kf5
  have kg6 := kf6
  have ki1 := kp1
  have ki2 := kp2
  have ki3 := kp3
  have ki4 := kp4
  have r7 : μ7.1 b 7 = nI (c 2) := by rw [hs7.1 b hn0]; exact w7
  refine tr_aload_n dX0_become_92 rfl ?_
  refine tr_aload_n dX0_become_93 rfl ?_
  refine tr_getI dX0_become_94 fg_RX0_40 (by first | assumption | decide) (by first | assumption | rfl) rfl (by first | assumption | rfl) ?_
  refine tr_putI dX0_become_97 fp_RX0_40 (by first | assumption | decide) (by first | assumption | rfl) rfl ?_
  -- at 100: .aload_n 0
  have hs8 := hs7.put (a := a) (upd (μ7.1 a) 7 (nI (c 2))) (by simp)
  have kf7 : (sI μ7 a (upd (μ7.1 a) 7 (nI (c 2)))).1 a 7 = nI (c 2) := by rw [sI_same, pk_us]
  have kf4 : (sI μ7 a (upd (μ7.1 a) 7 (nI (c 2)))).1 a 4 = nI (c 18) := by rw [sI_same, pk_un (by omega)]; exact kg4
  have kf5 : (sI μ7 a (upd (μ7.1 a) 7 (nI (c 2)))).1 a 5 = nI (c 0) := by rw [sI_same, pk_un (by omega)]; exact kg5
  have kf6 : (sI μ7 a (upd (μ7.1 a) 7 (nI (c 2)))).1 a 6 = nI (c 1) := by rw [sI_same, pk_un (by omega)]; exact kg6
  have kp1 : (sI μ7 a (upd (μ7.1 a) 7 (nI (c 2)))).1 (a + 1) = μ7.1 (a + 1) := sI_ne _ _ (by omega)
  rw [ki1] at kp1
  have kp2 : (sI μ7 a (upd (μ7.1 a) 7 (nI (c 2)))).1 (a + 2) = μ7.1 (a + 2) := sI_ne _ _ (by omega)
  rw [ki2] at kp2
  have kp3 : (sI μ7 a (upd (μ7.1 a) 7 (nI (c 2)))).1 (a + 3) = μ7.1 (a + 3) := sI_ne _ _ (by omega)
  rw [ki3] at kp3
  have kp4 : (sI μ7 a (upd (μ7.1 a) 7 (nI (c 2)))).1 (a + 4) = μ7.1 (a + 4) := sI_ne _ _ (by omega)
  rw [ki4] at kp4
  generalize sI μ7 a (upd (μ7.1 a) 7 (nI (c 2))) = μ8 at hs8 kf4 kf5 kf6 kf7 kp1 kp2 kp3 kp4 ⊢
  have kg4 := kf4
  have kg5 := kf5
  have kg6 := kf6
  have kg7 := kf7
  have ki1 := kp1
  have ki2 := kp2
  have ki3 := kp3
  have ki4 := kp4
  have r8 : μ8.1 b 8 = nI (c 3) := by rw [hs8.1 b hn0]; exact w8
  refine tr_aload_n dX0_become_100 rfl ?_
  refine tr_aload_n dX0_become_101 rfl ?_
  refine tr_getI dX0_become_102 fg_RX0_43 (by first | assumption | decide) (by first | assumption | rfl) rfl (by first | assumption | rfl) ?_
  refine tr_putI dX0_become_105 fp_RX0_43 (by first | assumption | decide) (by first | assumption | rfl) rfl ?_
  -- at 108: .return_
  have hs9 := hs8.put (a := a) (upd (μ8.1 a) 8 (nI (c 3))) (by simp)
  have kf8 : (sI μ8 a (upd (μ8.1 a) 8 (nI (c 3)))).1 a 8 = nI (c 3) := by rw [sI_same, pk_us]
  have kf4 : (sI μ8 a (upd (μ8.1 a) 8 (nI (c 3)))).1 a 4 = nI (c 18) := by rw [sI_same, pk_un (by omega)]; exact kg4
  have kf5 : (sI μ8 a (upd (μ8.1 a) 8 (nI (c 3)))).1 a 5 = nI (c 0) := by rw [sI_same, pk_un (by omega)]; exact kg5
  have kf6 : (sI μ8 a (upd (μ8.1 a) 8 (nI (c 3)))).1 a 6 = nI (c 1) := by rw [sI_same, pk_un (by omega)]; exact kg6
  have kf7 : (sI μ8 a (upd (μ8.1 a) 8 (nI (c 3)))).1 a 7 = nI (c 2) := by rw [sI_same, pk_un (by omega)]; exact kg7
  have kp1 : (sI μ8 a (upd (μ8.1 a) 8 (nI (c 3)))).1 (a + 1) = μ8.1 (a + 1) := sI_ne _ _ (by omega)
  rw [ki1] at kp1
  have kp2 : (sI μ8 a (upd (μ8.1 a) 8 (nI (c 3)))).1 (a + 2) = μ8.1 (a + 2) := sI_ne _ _ (by omega)
  rw [ki2] at kp2
  have kp3 : (sI μ8 a (upd (μ8.1 a) 8 (nI (c 3)))).1 (a + 3) = μ8.1 (a + 3) := sI_ne _ _ (by omega)
  rw [ki3] at kp3
  have kp4 : (sI μ8 a (upd (μ8.1 a) 8 (nI (c 3)))).1 (a + 4) = μ8.1 (a + 4) := sI_ne _ _ (by omega)
  rw [ki4] at kp4
  generalize sI μ8 a (upd (μ8.1 a) 8 (nI (c 3))) = μ9 at hs9 kf4 kf5 kf6 kf7 kf8 kp1 kp2 kp3 kp4 ⊢
  have kg4 := kf4
  have kg5 := kf5
  have kg6 := kf6
  have kg7 := kf7
  have kg8 := kf8
  have ki1 := kp1
  have ki2 := kp2
  have ki3 := kp3
  have ki4 := kp4
  refine tr_vret dX0_become_108 (by first | exact trivial | rfl) ⟨hs9, kg4, kg5, kg6, kg7, kg8, fun i hi => ?_⟩
  obtain ⟨a1, a2, a3, a4⟩ := rr i hi
  rw [ki1, ki2, ki3, ki4, pk_cpy_in (by omega) (by omega), pk_cpy_in (by omega) (by omega), pk_cpy_in (by omega) (by omega), pk_cpy_in (by omega) (by omega)]
  simp only [Nat.sub_zero, Nat.zero_add]
  exact ⟨a1, a2, a3, a4⟩
theorem c_begin {p : Nat} (hA : isB a) : cp X (d + 1) kX0_begin [.ref a, .int (nI p)] μ (qv (fun μ' => same μ μ' [a] ∧ BR μ' a (nu (fun _ => 0) 0 p))) := by
  obtain ⟨⟨i0, i1, i2, i3, i4⟩, s0, s1, s2, s3, s4⟩ := hA
  refine cp_of ok_X0_begin (L := [.ref a, .int (nI p)]) rfl ?_
  refine tr_aload_n dX0_begin_0 rfl ?_
  refine tr_iconst (v := nI 0) dX0_begin_1 (by decide) ?_
  refine tr_putI dX0_begin_2 fp_RX0_24 (by first | assumption | decide) (by first | assumption | rfl) rfl ?_
  refine tr_aload_n dX0_begin_5 rfl ?_
  refine tr_iload_n dX0_begin_6 rfl ?_
  refine tr_putI dX0_begin_7 fp_RX0_34 (by first | assumption | decide) (by first | assumption | rfl) rfl ?_
  refine tr_aload_n dX0_begin_10 rfl ?_
  refine tr_iconst (v := nI 0) dX0_begin_11 (by decide) ?_
  refine tr_putI dX0_begin_12 fp_RX0_37 (by first | assumption | decide) (by first | assumption | rfl) rfl ?_
  refine tr_aload_n dX0_begin_15 rfl ?_
  refine tr_iconst (v := nI 0) dX0_begin_16 (by decide) ?_
  refine tr_putI dX0_begin_17 fp_RX0_40 (by first | assumption | decide) (by first | assumption | rfl) rfl ?_
  refine tr_aload_n dX0_begin_20 rfl ?_
  refine tr_iconst (v := nI 0) dX0_begin_21 (by decide) ?_
  refine tr_putI dX0_begin_22 fp_RX0_43 (by first | assumption | decide) (by first | assumption | rfl) rfl ?_
  -- at 25: .return_
  refine tr_vret dX0_begin_25 (by first | exact trivial | rfl) ⟨((((((same.rf μ [a]).put _ (by simp)).put _ (by simp)).put _ (by simp)).put _ (by simp)).put _ (by simp)), ?_⟩
  simp only [BR, sI_same, pk_us]
  refine ⟨?_, ?_, ?_, ?_, ?_, fun i hi => ?_⟩
  · simp [upd]; rfl
  · simp [upd]; rfl
  · simp [upd]; rfl
  · simp [upd]; rfl
  · rfl
  · exact absurd hi (by rw [nu_n _ _ (by omega)]; omega)
theorem c_addDrum {kd sh mk : Nat} (hA : isB a) (hr : BR μ a c) (hn : c 18 < 7) : cp X (d + 1) kX0_addDrum [.ref a, .int (nI kd), .int (nI sh), .int (nI mk)] μ (qv (fun μ' => same μ μ' [a, a + 1, a + 2, a + 3, a + 4] ∧ BR μ' a (nu (nu (nu (nu (nu c (19 + c 18) kd) (4 + c 18) sh) (11 + c 18) sh) (26 + c 18) mk) 18 (c 18 + 1)))) := by
  have hB' := hA
  obtain ⟨⟨i0, i1, i2, i3, i4⟩, s0, s1, s2, s3, s4⟩ := hA
  have hr0 := hr
  have r4 := hr0.1
  have hs0 := same.rf μ [a, a + 1, a + 2, a + 3, a + 4]
  have h18 : c 18 ≤ 7 := by omega
  refine cp_of ok_X0_addDrum (L := [.ref a, .int (nI kd), .int (nI sh), .int (nI mk)]) rfl ?_
  refine tr_aload_n dX0_addDrum_0 rfl ?_
  refine tr_getI dX0_addDrum_1 fg_RX0_24 (by first | assumption | decide) (by first | assumption | rfl) rfl (by first | assumption | rfl) ?_
  refine tr_bipush (v := nI 7) dX0_addDrum_4 (by decide) ?_
  -- at 6: .if_icmp .ge 53
  refine tr_geN (tgt := 59) dX0_addDrum_6 (by decide) (by omega) (by omega) (fun h1 => ?_) (fun h1 => ?_)
  · omega
  have ka : μ.1 a = μ.1 a := rfl
  refine tr_aload_n dX0_addDrum_9 rfl ?_
  refine tr_getR dX0_addDrum_10 fg_RX0_9 (by first | assumption | decide) (by first | assumption | rfl) rfl (by omega) ?_
  refine tr_aload_n dX0_addDrum_13 rfl ?_
  refine tr_getI dX0_addDrum_14 fg_RX0_24 (by first | assumption | decide) (by first | assumption | rfl) rfl (by first | assumption | rfl) ?_
  refine tr_iload_n dX0_addDrum_17 rfl ?_
  refine tr_iast dX0_addDrum_18 (by first | assumption | decide) (by first | assumption | rfl) rfl (by omega) (by omega) ?_
  -- at 19: .aload_n 0
  have hs1 := hs0.put (a := a + 1) (upd (μ.1 (a + 1)) (c 18) (nI kd)) (by simp)
  have ka1 : (sI μ (a + 1) (upd (μ.1 (a + 1)) (c 18) (nI kd))).1 a = μ.1 a := (sI_ne _ _ (by omega)).trans ka
  have kp1_1 : (sI μ (a + 1) (upd (μ.1 (a + 1)) (c 18) (nI kd))).1 (a + 1) = upd (μ.1 (a + 1)) (c 18) (nI kd) := (sI_same _ _ _).trans (by rw [show μ.1 (a + 1) = μ.1 (a + 1) from rfl])
  have kp2_1 : (sI μ (a + 1) (upd (μ.1 (a + 1)) (c 18) (nI kd))).1 (a + 2) = μ.1 (a + 2) := (sI_ne _ _ (by omega)).trans rfl
  have kp3_1 : (sI μ (a + 1) (upd (μ.1 (a + 1)) (c 18) (nI kd))).1 (a + 3) = μ.1 (a + 3) := (sI_ne _ _ (by omega)).trans rfl
  have kp4_1 : (sI μ (a + 1) (upd (μ.1 (a + 1)) (c 18) (nI kd))).1 (a + 4) = μ.1 (a + 4) := (sI_ne _ _ (by omega)).trans rfl
  generalize sI μ (a + 1) (upd (μ.1 (a + 1)) (c 18) (nI kd)) = μ1 at hs1 ka1 kp1_1 kp2_1 kp3_1 kp4_1 ⊢
  have r4 : μ1.1 a 4 = nI (c 18) := by rw [ka1]; exact hr0.1
  refine tr_aload_n dX0_addDrum_19 rfl ?_
  refine tr_getR dX0_addDrum_20 fg_RX0_15 (by first | assumption | decide) (by first | assumption | rfl) rfl (by omega) ?_
  refine tr_aload_n dX0_addDrum_23 rfl ?_
  refine tr_getI dX0_addDrum_24 fg_RX0_24 (by first | assumption | decide) (by first | assumption | rfl) rfl (by first | assumption | rfl) ?_
  refine tr_iload_n dX0_addDrum_27 rfl ?_
  refine tr_iast dX0_addDrum_28 (by first | assumption | decide) (by first | assumption | rfl) rfl (by omega) (by omega) ?_
  -- at 29: .aload_n 0
  have hs2 := hs1.put (a := a + 2) (upd (μ1.1 (a + 2)) (c 18) (nI sh)) (by simp)
  have ka2 : (sI μ1 (a + 2) (upd (μ1.1 (a + 2)) (c 18) (nI sh))).1 a = μ.1 a := (sI_ne _ _ (by omega)).trans ka1
  have kp1_2 : (sI μ1 (a + 2) (upd (μ1.1 (a + 2)) (c 18) (nI sh))).1 (a + 1) = upd (μ.1 (a + 1)) (c 18) (nI kd) := (sI_ne _ _ (by omega)).trans kp1_1
  have kp2_2 : (sI μ1 (a + 2) (upd (μ1.1 (a + 2)) (c 18) (nI sh))).1 (a + 2) = upd (μ.1 (a + 2)) (c 18) (nI sh) := (sI_same _ _ _).trans (by rw [show μ1.1 (a + 2) = μ.1 (a + 2) from kp2_1])
  have kp3_2 : (sI μ1 (a + 2) (upd (μ1.1 (a + 2)) (c 18) (nI sh))).1 (a + 3) = μ.1 (a + 3) := (sI_ne _ _ (by omega)).trans kp3_1
  have kp4_2 : (sI μ1 (a + 2) (upd (μ1.1 (a + 2)) (c 18) (nI sh))).1 (a + 4) = μ.1 (a + 4) := (sI_ne _ _ (by omega)).trans kp4_1
  generalize sI μ1 (a + 2) (upd (μ1.1 (a + 2)) (c 18) (nI sh)) = μ2 at hs2 ka2 kp1_2 kp2_2 kp3_2 kp4_2 ⊢
  have r4 : μ2.1 a 4 = nI (c 18) := by rw [ka2]; exact hr0.1
  refine tr_aload_n dX0_addDrum_29 rfl ?_
  refine tr_getR dX0_addDrum_30 fg_RX0_18 (by first | assumption | decide) (by first | assumption | rfl) rfl (by omega) ?_
  refine tr_aload_n dX0_addDrum_33 rfl ?_
  refine tr_getI dX0_addDrum_34 fg_RX0_24 (by first | assumption | decide) (by first | assumption | rfl) rfl (by first | assumption | rfl) ?_
  refine tr_iload_n dX0_addDrum_37 rfl ?_
  refine tr_iast dX0_addDrum_38 (by first | assumption | decide) (by first | assumption | rfl) rfl (by omega) (by omega) ?_
  -- at 39: .aload_n 0
  have hs3 := hs2.put (a := a + 3) (upd (μ2.1 (a + 3)) (c 18) (nI sh)) (by simp)
  have ka3 : (sI μ2 (a + 3) (upd (μ2.1 (a + 3)) (c 18) (nI sh))).1 a = μ.1 a := (sI_ne _ _ (by omega)).trans ka2
  have kp1_3 : (sI μ2 (a + 3) (upd (μ2.1 (a + 3)) (c 18) (nI sh))).1 (a + 1) = upd (μ.1 (a + 1)) (c 18) (nI kd) := (sI_ne _ _ (by omega)).trans kp1_2
  have kp2_3 : (sI μ2 (a + 3) (upd (μ2.1 (a + 3)) (c 18) (nI sh))).1 (a + 2) = upd (μ.1 (a + 2)) (c 18) (nI sh) := (sI_ne _ _ (by omega)).trans kp2_2
  have kp3_3 : (sI μ2 (a + 3) (upd (μ2.1 (a + 3)) (c 18) (nI sh))).1 (a + 3) = upd (μ.1 (a + 3)) (c 18) (nI sh) := (sI_same _ _ _).trans (by rw [show μ2.1 (a + 3) = μ.1 (a + 3) from kp3_2])
  have kp4_3 : (sI μ2 (a + 3) (upd (μ2.1 (a + 3)) (c 18) (nI sh))).1 (a + 4) = μ.1 (a + 4) := (sI_ne _ _ (by omega)).trans kp4_2
  generalize sI μ2 (a + 3) (upd (μ2.1 (a + 3)) (c 18) (nI sh)) = μ3 at hs3 ka3 kp1_3 kp2_3 kp3_3 kp4_3 ⊢
  have r4 : μ3.1 a 4 = nI (c 18) := by rw [ka3]; exact hr0.1
  refine tr_aload_n dX0_addDrum_39 rfl ?_
  refine tr_getR dX0_addDrum_40 fg_RX0_21 (by first | assumption | decide) (by first | assumption | rfl) rfl (by omega) ?_
  refine tr_aload_n dX0_addDrum_43 rfl ?_
  refine tr_getI dX0_addDrum_44 fg_RX0_24 (by first | assumption | decide) (by first | assumption | rfl) rfl (by first | assumption | rfl) ?_
  refine tr_iload_n dX0_addDrum_47 rfl ?_
  refine tr_iast dX0_addDrum_48 (by first | assumption | decide) (by first | assumption | rfl) rfl (by omega) (by omega) ?_
  -- at 49: .aload_n 0
  have hs4 := hs3.put (a := a + 4) (upd (μ3.1 (a + 4)) (c 18) (nI mk)) (by simp)
  have ka4 : (sI μ3 (a + 4) (upd (μ3.1 (a + 4)) (c 18) (nI mk))).1 a = μ.1 a := (sI_ne _ _ (by omega)).trans ka3
  have kp1_4 : (sI μ3 (a + 4) (upd (μ3.1 (a + 4)) (c 18) (nI mk))).1 (a + 1) = upd (μ.1 (a + 1)) (c 18) (nI kd) := (sI_ne _ _ (by omega)).trans kp1_3
  have kp2_4 : (sI μ3 (a + 4) (upd (μ3.1 (a + 4)) (c 18) (nI mk))).1 (a + 2) = upd (μ.1 (a + 2)) (c 18) (nI sh) := (sI_ne _ _ (by omega)).trans kp2_3
  have kp3_4 : (sI μ3 (a + 4) (upd (μ3.1 (a + 4)) (c 18) (nI mk))).1 (a + 3) = upd (μ.1 (a + 3)) (c 18) (nI sh) := (sI_ne _ _ (by omega)).trans kp3_3
  have kp4_4 : (sI μ3 (a + 4) (upd (μ3.1 (a + 4)) (c 18) (nI mk))).1 (a + 4) = upd (μ.1 (a + 4)) (c 18) (nI mk) := (sI_same _ _ _).trans (by rw [show μ3.1 (a + 4) = μ.1 (a + 4) from kp4_3])
  generalize sI μ3 (a + 4) (upd (μ3.1 (a + 4)) (c 18) (nI mk)) = μ4 at hs4 ka4 kp1_4 kp2_4 kp3_4 kp4_4 ⊢
  have r4 : μ4.1 a 4 = nI (c 18) := by rw [ka4]; exact hr0.1
  refine tr_aload_n dX0_addDrum_49 rfl ?_
  refine tr_dup dX0_addDrum_50 rfl ?_
  refine tr_getI dX0_addDrum_51 fg_RX0_24 (by first | assumption | decide) (by first | assumption | rfl) rfl (by first | assumption | rfl) ?_
  refine tr_iconst (v := nI 1) dX0_addDrum_54 (by decide) ?_
  first | with_reducible refine tr_iaddN dX0_addDrum_55 ?_ | refine tr_iadd dX0_addDrum_55 ?_
  refine tr_putI dX0_addDrum_56 fp_RX0_24 (by first | assumption | decide) (by first | assumption | rfl) rfl ?_
  -- at 59: .return_
  refine tr_vret dX0_addDrum_59 (by first | exact trivial | rfl) ⟨hs4.put _ (by simp), ?_⟩
  obtain ⟨g4, g5, g6, g7, g8, gg⟩ := hr0
  have e : (sI μ4 a (upd (μ4.1 a) 4 (nI (c 18 + 1)))).1 a = upd (μ.1 a) 4 (nI (c 18 + 1)) := (sI_same _ _ _).trans (by rw [ka4])
  refine ⟨by rw [e, pk_us, nu_s], ?_, ?_, ?_, ?_, fun j hj => ?_⟩
  · rw [e, pk_un (by omega), nu_n _ _ (by omega), nu_n _ _ (by omega), nu_n _ _ (by omega), nu_n _ _ (by omega), nu_n _ _ (by omega)]; exact g5
  · rw [e, pk_un (by omega), nu_n _ _ (by omega), nu_n _ _ (by omega), nu_n _ _ (by omega), nu_n _ _ (by omega), nu_n _ _ (by omega)]; exact g6
  · rw [e, pk_un (by omega), nu_n _ _ (by omega), nu_n _ _ (by omega), nu_n _ _ (by omega), nu_n _ _ (by omega), nu_n _ _ (by omega)]; exact g7
  · rw [e, pk_un (by omega), nu_n _ _ (by omega), nu_n _ _ (by omega), nu_n _ _ (by omega), nu_n _ _ (by omega), nu_n _ _ (by omega)]; exact g8
  rw [nu_s] at hj
  rw [sI_ne _ _ (by omega), sI_ne _ _ (by omega), sI_ne _ _ (by omega), sI_ne _ _ (by omega), kp1_4, kp2_4, kp3_4, kp4_4, nu_n _ (c 18 + 1) (show 19 + j ≠ 18 by omega), nu_n _ (c 18 + 1) (show 4 + j ≠ 18 by omega), nu_n _ (c 18 + 1) (show 11 + j ≠ 18 by omega), nu_n _ (c 18 + 1) (show 26 + j ≠ 18 by omega)]
  rcases Nat.lt_or_ge j (c 18) with hl | hl
  · obtain ⟨a1, a2, a3, a4⟩ := gg j hl
    have hne : j ≠ c 18 := by omega
    rw [pk_un hne, pk_un hne, pk_un hne, pk_un hne]
    refine ⟨a1.trans (congrArg nI ?_), a2.trans (congrArg nI ?_), a3.trans (congrArg nI ?_), a4.trans (congrArg nI ?_)⟩ <;> (repeat rw [nu_n _ _ (by omega)])
  · obtain rfl : j = c 18 := by omega
    rw [pk_us, pk_us, pk_us, pk_us]
    refine ⟨congrArg nI ?_, congrArg nI ?_, congrArg nI ?_, congrArg nI ?_⟩
    · rw [nu_n _ _ (by omega), nu_n _ _ (by omega), nu_n _ _ (by omega), nu_s]
    · rw [nu_n _ _ (by omega), nu_n _ _ (by omega), nu_s]
    · rw [nu_n _ _ (by omega), nu_s]
    · rw [nu_s]
end B4
section DD
variable {X : Nat × (Nat → Int32)} {d : Nat} {μ : am_M} {a b i : Nat} {c : NF}
-- deeds
def isD (a : Nat) : Prop := (am_in a ∧ am_in (a + 1)) ∧ shp a = (9, 0, [a + 1, 0]) ∧ shp (a + 1) = (0, 40, [])
def DR (μ : am_M) (a : Nat) (l : List Nat) : Prop := l.length ≤ 40 ∧ μ.1 a 1 = nI l.length ∧ ∀ i, i < l.length → μ.1 (a + 1) i = nI (l.getD i 0)
theorem c_packed {w q v : Nat} (hw : w < 5) (hq : q < 16) (hv : v < 16) : cp X (d + 1) kX1_packed [.int (nI w), .int (nI q), .int (nI v)] μ (qi (fun r μ' => μ' = μ ∧ r = nI (256 * w + 16 * q + v))) := by
  refine cp_of ok_X1_packed (L := [.int (nI w), .int (nI q), .int (nI v)]) rfl ?_
  refine tr_iload_n dX1_packed_0 rfl ?_
  refine tr_bipush (v := nI 8) dX1_packed_1 (by decide) ?_
  refine tr_ishl dX1_packed_3 ?_
  refine tr_iload_n dX1_packed_4 rfl ?_
  refine tr_iconst (v := nI 4) dX1_packed_5 (by decide) ?_
  refine tr_ishl dX1_packed_6 ?_
  refine tr_ior dX1_packed_7 ?_
  refine tr_iload_n dX1_packed_8 rfl ?_
  refine tr_ior dX1_packed_9 ?_
  -- at 10: .ireturn
  refine tr_iret dX1_packed_10 (by first | exact trivial | rfl) ⟨rfl, dd_packed w hw q hq v hv⟩
theorem c_whatOf {dd : Nat} (hd : dd < 1280) : cp X (d + 1) kX1_whatOf [.int (nI dd)] μ (qi (fun r μ' => μ' = μ ∧ r = nI (dd / 256))) := by
  refine cp_of ok_X1_whatOf (L := [.int (nI dd)]) rfl ?_
  refine tr_iload_n dX1_whatOf_0 rfl ?_
  refine tr_bipush (v := nI 8) dX1_whatOf_1 (by decide) ?_
  refine tr_ishr dX1_whatOf_3 ?_
  -- at 4: .ireturn
  refine tr_iret dX1_whatOf_4 (by first | exact trivial | rfl) ⟨rfl, dd_what dd hd⟩
theorem c_drumOf {dd : Nat} (hd : dd < 1280) : cp X (d + 1) kX1_drumOf [.int (nI dd)] μ (qi (fun r μ' => μ' = μ ∧ r = nI (dd / 16 % 16))) := by
  refine cp_of ok_X1_drumOf (L := [.int (nI dd)]) rfl ?_
  refine tr_iload_n dX1_drumOf_0 rfl ?_
  refine tr_iconst (v := nI 4) dX1_drumOf_1 (by decide) ?_
  refine tr_ishr dX1_drumOf_2 ?_
  refine tr_bipush (v := nI 15) dX1_drumOf_3 (by decide) ?_
  refine tr_iand dX1_drumOf_5 ?_
  -- at 6: .ireturn
  refine tr_iret dX1_drumOf_6 (by first | exact trivial | rfl) ⟨rfl, dd_drum dd hd⟩
theorem c_valueOf {dd : Nat} (hd : dd < 1280) : cp X (d + 1) kX1_valueOf [.int (nI dd)] μ (qi (fun r μ' => μ' = μ ∧ r = nI (dd % 16))) := by
  refine cp_of ok_X1_valueOf (L := [.int (nI dd)]) rfl ?_
  refine tr_iload_n dX1_valueOf_0 rfl ?_
  refine tr_bipush (v := nI 15) dX1_valueOf_1 (by decide) ?_
  refine tr_iand dX1_valueOf_3 ?_
  -- at 4: .ireturn
  refine tr_iret dX1_valueOf_4 (by first | exact trivial | rfl) ⟨rfl, dd_value dd hd⟩
theorem c_isFull {l : List Nat} {n : Nat} (hn : n < 1000) (hD : isD a) (hr : DR μ a l) : cp X (d + 1) kX1_isFull [.ref a, .int (nI n)] μ (qi (fun r μ' => μ' = μ ∧ r = nI (bN (decide (40 < l.length + n))))) := by
  obtain ⟨⟨i0, i1⟩, s0, s1⟩ := hD
  obtain ⟨r0, r1, r2⟩ := hr
  refine cp_of ok_X1_isFull (L := [.ref a, .int (nI n)]) rfl ?_
  refine tr_aload_n dX1_isFull_0 rfl ?_
  refine tr_getI dX1_isFull_1 fg_RX1_15 (by first | assumption | decide) (by first | assumption | rfl) rfl (by first | assumption | rfl) ?_
  refine tr_iload_n dX1_isFull_4 rfl ?_
  first | with_reducible refine tr_iaddN dX1_isFull_5 ?_ | refine tr_iadd dX1_isFull_5 ?_
  refine tr_bipush (v := nI 40) dX1_isFull_6 (by decide) ?_
  -- at 8: .if_icmp .le 7
  refine tr_leN (tgt := 15) dX1_isFull_8 (by decide) (by omega) (by omega) (fun h1 => ?_) (fun h1 => ?_)
  · refine tr_iconst (v := nI 0) dX1_isFull_15 (by decide) ?_
    -- at 16: .ireturn
    refine tr_iret dX1_isFull_16 (by first | exact trivial | rfl) ⟨rfl, by rw [show decide (40 < l.length + n) = false from decide_eq_false (by omega)]; rfl⟩
  · refine tr_iconst (v := nI 1) dX1_isFull_11 (by decide) ?_
    refine tr_goto (tgt := 16) dX1_isFull_12 (by decide) ?_
    -- at 16: .ireturn
    refine tr_iret dX1_isFull_16 (by first | exact trivial | rfl) ⟨rfl, by rw [show decide (40 < l.length + n) = true from decide_eq_true (by omega)]; rfl⟩
theorem c_add {l : List Nat} {dd : Nat} (hD : isD a) (hr : DR μ a l) (hl : l.length < 40) : cp X (d + 1) kX1_add [.ref a, .int (nI dd)] μ (qv (fun μ' => same μ μ' [a, a + 1] ∧ DR μ' a (l ++ [dd]))) := by
  obtain ⟨⟨i0, i1⟩, s0, s1⟩ := hD
  obtain ⟨r0, r1, r2⟩ := hr
  refine cp_of ok_X1_add (L := [.ref a, .int (nI dd)]) rfl ?_
  refine tr_aload_n dX1_add_0 rfl ?_
  refine tr_getI dX1_add_1 fg_RX1_15 (by first | assumption | decide) (by first | assumption | rfl) rfl (by first | assumption | rfl) ?_
  refine tr_bipush (v := nI 40) dX1_add_4 (by decide) ?_
  -- at 6: .if_icmp .ge 23
  refine tr_geN (tgt := 29) dX1_add_6 (by decide) (by omega) (by omega) (fun h1 => ?_) (fun h1 => ?_)
  · omega
  refine tr_aload_n dX1_add_9 rfl ?_
  refine tr_getR dX1_add_10 fg_RX1_9 (by first | assumption | decide) (by first | assumption | rfl) rfl (by omega) ?_
  refine tr_aload_n dX1_add_13 rfl ?_
  refine tr_getI dX1_add_14 fg_RX1_15 (by first | assumption | decide) (by first | assumption | rfl) rfl (by first | assumption | rfl) ?_
  refine tr_iload_n dX1_add_17 rfl ?_
  refine tr_iast dX1_add_18 (by first | assumption | decide) (by first | assumption | rfl) rfl (by omega) (by omega) ?_
  -- at 19: .aload_n 0
  have hs1 := (same.rf μ [a, a + 1]).put (a := a + 1) (upd (μ.1 (a + 1)) l.length (nI dd)) (by simp)
  have k0 : (sI μ (a + 1) (upd (μ.1 (a + 1)) l.length (nI dd))).1 a 1 = nI l.length := by rw [sI_ne _ _ (by omega)]; exact r1
  have k1 : (sI μ (a + 1) (upd (μ.1 (a + 1)) l.length (nI dd))).1 (a + 1) = upd (μ.1 (a + 1)) l.length (nI dd) := sI_same _ _ _
  generalize sI μ (a + 1) (upd (μ.1 (a + 1)) l.length (nI dd)) = μ1 at hs1 k0 k1 ⊢
  refine tr_aload_n dX1_add_19 rfl ?_
  refine tr_dup dX1_add_20 rfl ?_
  refine tr_getI dX1_add_21 fg_RX1_15 (by first | assumption | decide) (by first | assumption | rfl) rfl (by first | assumption | rfl) ?_
  refine tr_iconst (v := nI 1) dX1_add_24 (by decide) ?_
  first | with_reducible refine tr_iaddN dX1_add_25 ?_ | refine tr_iadd dX1_add_25 ?_
  refine tr_putI dX1_add_26 fp_RX1_15 (by first | assumption | decide) (by first | assumption | rfl) rfl ?_
  -- at 29: .return_
  refine tr_vret dX1_add_29 (by first | exact trivial | rfl) ⟨hs1.put _ (by simp), by simp; omega, ?_, fun i hi => ?_⟩
  · rw [sI_same, pk_us]; simp
  · rw [sI_ne _ _ (by omega), k1]
    rw [List.length_append, List.length_singleton] at hi
    by_cases e : i = l.length
    · subst e; rw [pk_us]; simp
    · rw [pk_un e, r2 i (by omega)]
      simp [List.getD_eq_getElem?_getD, List.getElem?_append_left (show i < l.length by omega)]
theorem c_dbecome {l : List Nat} (hA : isD a) (hB : isD b) (hab : a + 1 < b ∨ b + 1 < a) (hr : DR μ b l) : cp X (d + 1) kX1_become [.ref a, .ref b] μ (qv (fun μ' => same μ μ' [a, a + 1] ∧ DR μ' a l)) := by
  obtain ⟨⟨i0, i1⟩, s0, s1⟩ := hA
  obtain ⟨⟨j0, j1⟩, z0, z1⟩ := hB
  obtain ⟨r0, r1, r2⟩ := hr
  refine cp_of ok_X1_become (L := [.ref a, .ref b]) rfl ?_
  refine tr_aload_n dX1_become_0 rfl ?_
  refine tr_getR dX1_become_1 fg_RX1_9 (by first | assumption | decide) (by first | assumption | rfl) rfl (by omega) ?_
  refine tr_iconst (v := nI 0) dX1_become_4 (by decide) ?_
  refine tr_aload_n dX1_become_5 rfl ?_
  refine tr_getR dX1_become_6 fg_RX1_9 (by first | assumption | decide) (by first | assumption | rfl) rfl (by omega) ?_
  refine tr_iconst (v := nI 0) dX1_become_9 (by decide) ?_
  refine tr_aload_n dX1_become_10 rfl ?_
  refine tr_getI dX1_become_11 fg_RX1_15 (by first | assumption | decide) (by first | assumption | rfl) rfl (by first | assumption | rfl) ?_
  -- at 14: .invokestatic 19
  refine tr_acopy dX1_become_14 fa_RX1_19 (by first | assumption | decide) (by first | assumption | decide) (by first | assumption | rfl) (by first | assumption | rfl) rfl rfl rfl (by omega) (by omega) (by omega) (by omega) (Nat.le_of_ble_eq_true rfl) ?_
  have hs1 := (same.rf μ [a, a + 1]).put (a := a + 1) (va_cpy (μ.1 (b + 1)) (μ.1 (a + 1)) 0 0 l.length) (by simp)
  have k0 : (sI μ (a + 1) (va_cpy (μ.1 (b + 1)) (μ.1 (a + 1)) 0 0 l.length)).1 b 1 = nI l.length := by rw [sI_ne _ _ (by omega)]; exact r1
  have k1 : (sI μ (a + 1) (va_cpy (μ.1 (b + 1)) (μ.1 (a + 1)) 0 0 l.length)).1 (a + 1) = va_cpy (μ.1 (b + 1)) (μ.1 (a + 1)) 0 0 l.length := sI_same _ _ _
  generalize sI μ (a + 1) (va_cpy (μ.1 (b + 1)) (μ.1 (a + 1)) 0 0 l.length) = μ1 at hs1 k0 k1 ⊢
  refine tr_aload_n dX1_become_17 rfl ?_
  refine tr_aload_n dX1_become_18 rfl ?_
  refine tr_getI dX1_become_19 fg_RX1_15 (by first | assumption | decide) (by first | assumption | rfl) rfl (by first | assumption | rfl) ?_
  refine tr_putI dX1_become_22 fp_RX1_15 (by first | assumption | decide) (by first | assumption | rfl) rfl ?_
  -- at 25: .return_
  refine tr_vret dX1_become_25 (by first | exact trivial | rfl) ⟨hs1.put _ (by simp), r0, by rw [sI_same, pk_us], fun i hi => ?_⟩
  rw [sI_ne _ _ (by omega), k1, pk_cpy_in (by omega) (by omega)]
  simp only [Nat.sub_zero, Nat.zero_add]
  exact r2 i hi
theorem c_carry {dd : Nat} (hB : isB a) (hr : BR μ a c) (hw : wfc c) (hd : dOK (c 18) dd) : cp X (d + 4) kX0_carryOut [.ref a, .int (nI dd)] μ (qv (fun μ' => same μ μ' [a, a + 2, a + 3] ∧ BR μ' a (doM dd c))) := by
  have hB' := hB
  have hr' := hr
  obtain ⟨⟨i0, i1, i2, i3, i4⟩, s0, s1, s2, s3, s4⟩ := hB
  obtain ⟨r4, r5, r6, r7, r8, rr⟩ := hr
  have hw1 := hw.1
  refine cp_of ok_X0_carryOut (L := [.ref a, .int (nI dd), .float 0]) rfl ?_
  refine tr_iload_n dX0_carryOut_0 rfl ?_
  -- at 1: .invokestatic 79
  refine tr_Si (As := [_]) dX0_carryOut_1 fm_RX0_79 rfl rfl (Nat.le_of_ble_eq_true rfl) (c_drumOf (d := d + 2) hd.1) (fun v μ1 ⟨e1, e2⟩ => ?_)
  subst μ1; subst v
  refine tr_istore_n_2 dX0_carryOut_4 (by decide) rfl ?_
  refine tr_iload_n dX0_carryOut_5 rfl ?_
  -- at 6: .invokestatic 84
  refine tr_Si (As := [_]) dX0_carryOut_6 fm_RX0_84 rfl rfl (Nat.le_of_ble_eq_true rfl) (c_whatOf (d := d + 2) hd.1) (fun v μ1 ⟨e1, e2⟩ => ?_)
  subst μ1; subst v
  have hk : dd / 256 = 0 ∨ dd / 256 = 1 ∨ dd / 256 = 2 ∨ dd / 256 = 3 ∨ dd / 256 = 4 := by have := hd.1; omega
  rcases hk with hk | hk | hk | hk | hk <;> refine tr_v (congrArg nI hk) ?_
  · refine tr_tableIn (off := 31) (tgt := 40) dX0_carryOut_9 (by decide) (by decide) (by decide) (by decide) ?_
    refine tr_aload_n dX0_carryOut_40 rfl ?_
    -- at 41: .invokevirtual 64
    refine tr_Vv (As := []) dX0_carryOut_41 fm_RX0_64 rfl rfl (by first | assumption | decide) (by first | assumption | rfl) (Nat.le_of_ble_eq_true rfl) (c_step (d := d) hB' hr' hw) (fun μ1 ⟨e1, e2⟩ => ?_)
    refine tr_goto (tgt := 86) dX0_carryOut_44 (by decide) ?_
    -- at 86: .return_
    refine tr_vret dX0_carryOut_86 (by first | exact trivial | rfl) ⟨e1.wide (by simp), by rw [doM, if_pos hk]; exact e2⟩
  · refine tr_tableIn (off := 38) (tgt := 47) dX0_carryOut_9 (by decide) (by decide) (by decide) (by decide) ?_
    obtain ⟨q1, q2⟩ := hd.2.1 hk
    refine tr_aload_n dX0_carryOut_47 rfl ?_
    refine tr_getR dX0_carryOut_48 fg_RX0_18 (by first | assumption | decide) (by first | assumption | rfl) rfl (by omega) ?_
    refine tr_iload_n dX0_carryOut_51 rfl ?_
    refine tr_iload_n dX0_carryOut_52 rfl ?_
    -- at 53: .invokestatic 87
    refine tr_Si (As := [_]) dX0_carryOut_53 fm_RX0_87 rfl rfl (Nat.le_of_ble_eq_true rfl) (c_valueOf (d := d + 2) hd.1) (fun v μ1 ⟨e1, e2⟩ => ?_)
    subst μ1; subst v
    refine tr_iast dX0_carryOut_56 (by first | assumption | decide) (by first | assumption | rfl) rfl (by omega) (by omega) ?_
    refine tr_goto (tgt := 86) dX0_carryOut_57 (by decide) ?_
    -- at 86: .return_
    refine tr_vret dX0_carryOut_86 (by first | exact trivial | rfl) ⟨(same.rf μ _).put _ (by simp), by rw [doM, if_neg (by omega), if_pos hk]; exact hr'.setGoal (by omega) hw1⟩
  · refine tr_tableIn (off := 51) (tgt := 60) dX0_carryOut_9 (by decide) (by decide) (by decide) (by decide) ?_
    refine tr_aload_n dX0_carryOut_60 rfl ?_
    refine tr_iload_n dX0_carryOut_61 rfl ?_
    -- at 62: .invokestatic 87
    refine tr_Si (As := [_]) dX0_carryOut_62 fm_RX0_87 rfl rfl (Nat.le_of_ble_eq_true rfl) (c_valueOf (d := d + 2) hd.1) (fun v μ1 ⟨e1, e2⟩ => ?_)
    subst μ1; subst v
    refine tr_putI dX0_carryOut_65 fp_RX0_34 (by first | assumption | decide) (by first | assumption | rfl) rfl ?_
    refine tr_goto (tgt := 86) dX0_carryOut_68 (by decide) ?_
    -- at 86: .return_
    refine tr_vret dX0_carryOut_86 (by first | exact trivial | rfl) ⟨(same.rf μ _).put _ (by simp), by rw [doM, if_neg (by omega), if_neg (by omega), if_pos hk]; exact hr'.setF5⟩
  · refine tr_tableIn (off := 62) (tgt := 71) dX0_carryOut_9 (by decide) (by decide) (by decide) (by decide) ?_
    have q1 := hd.2.2.2 hk
    refine tr_aload_n dX0_carryOut_71 rfl ?_
    refine tr_dup dX0_carryOut_72 rfl ?_
    refine tr_getI dX0_carryOut_73 fg_RX0_43 (by first | assumption | decide) (by first | assumption | rfl) rfl (by first | assumption | rfl) ?_
    refine tr_iconst (v := nI 1) dX0_carryOut_76 (by decide) ?_
    refine tr_iload_n dX0_carryOut_77 rfl ?_
    refine tr_ishl dX0_carryOut_78 ?_
    refine tr_ixor dX0_carryOut_79 ?_
    -- at 80: .putfield 43
    refine tr_v (jam_flip _ hw.jam0 _ (by omega)) ?_
    refine tr_putI dX0_carryOut_80 fp_RX0_43 (by first | assumption | decide) (by first | assumption | rfl) rfl ?_
    refine tr_goto (tgt := 86) dX0_carryOut_83 (by decide) ?_
    -- at 86: .return_
    refine tr_vret dX0_carryOut_86 (by first | exact trivial | rfl) ⟨(same.rf μ _).put _ (by simp), by rw [doM, if_neg (by omega), if_neg (by omega), if_neg (by omega), if_pos hk]; exact hr'.setF8⟩
  · refine tr_tableOut (tgt := 86) dX0_carryOut_9 (by decide) (by decide) ?_
    refine tr_vret dX0_carryOut_86 (by first | exact trivial | rfl) ⟨same.rf μ _, by rw [doM, if_neg (by omega), if_neg (by omega), if_neg (by omega), if_neg (by omega)]; exact hr'⟩
end DD
