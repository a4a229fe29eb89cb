-- ===== FlapBoard: order =====
theorem foO_len {N : Nat} {g : Nat → Nat} {m : Nat} {rec : List Nat → Nat → NF → Nat × List Nat → Nat × List Nat} (hrec : ∀ ps t c acc, rec ps t c acc = acc ∨ (rec ps t c acc).2.length = ps.length + m) (ps : List Nat) (t : Nat) (c : NF) (acc : Nat × List Nat) : ∀ k, foO N g rec ps t c acc k = acc ∨ (foO N g rec ps t c acc k).2.length = ps.length + (m + 1)
  | 0 => Or.inl rfl
  | k + 1 => by
    have ih := foO_len hrec ps t c acc (N := N) (g := g) k
    rw [foO, stO]
    split
    · exact ih
    · split
      · rcases hrec (ps ++ [k]) (t + tM 61 (aimM (c 18) (g k) c)) (goI (tM 61 (aimM (c 18) (g k) c)) (aimM (c 18) (g k) c)) (foO N g rec ps t c acc k) with e | e
        · rw [e]; exact ih
        · right; rw [e]; simp; omega
      · exact ih
theorem dfs_len {N : Nat} {g : Nat → Nat} : ∀ (m : Nat) (ps : List Nat) (t : Nat) (c : NF) (acc : Nat × List Nat), dfs N g m ps t c acc = acc ∨ (dfs N g m ps t c acc).2.length = ps.length + m
  | 0, ps, t, c, acc => Or.inr rfl
  | m + 1, ps, t, c, acc => by
    rw [dfs]
    exact foO_len (dfs_len m) ps t c acc N
def ordM (σ : SG) (n : Nat) (f : Nat → Int32) : Nat × List Nat := dfs n (fun k => (f k).toNatClampNeg) n [] 0 (nowM σ) (301, [])
def S_order (σ : SG) (r to : Int32) : Int32 × SG := match ixV r 6, ixV to 6 with
  | some j, some l => match mref σ j with
    | some p => p
    | none => match sR σ j with
      | some (n, f) => if (ordM σ n f).1 = 301 then (-9, σ) else (nI (ordM σ n f).1, gR σ l (some (n, fun k => nI ((ordM σ n f).2.getD k 0))))
      | none => (0, σ)
  | _, _ => (-1, σ)
theorem mref_none {σ : SG} {j : Nat} (h : mref σ j = none) : ∃ n f, sR σ j = some (n, f) ∧ 0 < n ∧ n ≤ 5 ∧ withM n f (nI (10 ^ nowM σ 18 - 1)) = true := by
  unfold mref at h
  split at h
  · cases h
  · cases ho : sR σ j with
    | none => rw [ho] at h; cases h
    | some w =>
      obtain ⟨n, f⟩ := w
      rw [ho] at h
      dsimp only at h
      split at h
      · cases h
      · split at h
        · exact ⟨n, f, rfl, by omega, by omega, by assumption⟩
        · cases h
section F11
variable {X : Nat × (Nat → Int32)} {d : Nat} {μ : am_M} {σ : SG} {r x y z w : Int32} {i j n : Nat} {f : Nat → Int32}
theorem f_order (h : CI μ σ) (hW : WI σ) : cp X (d + 12) kX7_order [.ref 2, .int x, .int y] μ (PO μ (S_order σ x y)) := by
  have hw := hW.now
  have hw1 := hw.1
  have h10 := ten_le hw1
  refine cp_of ok_X7_order (L := [.ref 2, .int x, .int y, .float 0, .float 0, .float 0]) rfl ?_
  refine tr_iload_n dX7_order_0 rfl ?_
  -- at 1: .invokestatic 84
  refine tr_Si (As := [_]) dX7_order_1 fm_RX7_84 rfl rfl (Nat.le_of_ble_eq_true rfl) (c_isRow (d := d + 10)) (fun v μ1 ⟨e1, e2⟩ => ?_)
  subst μ1; subst v
  cases hx : ixV x 6 with
  | none =>
    refine tr_ifb0 (tgt := 14) dX7_order_4 (by decide) (fun h1 => ?_) (fun h1 => ?_)
    · refine tr_iconst (v := -1) dX7_order_14 (by decide) ?_
      -- at 15: .ireturn
      refine tr_iret dX7_order_15 (by first | exact trivial | rfl) (po_same h (by simp only [S_order, hx]))
    · cases h1
  | some j =>
    obtain ⟨rfl, hj⟩ := ixV_some (by omega) hx
    refine tr_ifb0 (tgt := 14) dX7_order_4 (by decide) (fun h1 => ?_) (fun h1 => ?_)
    · cases h1
    · refine tr_iload_n dX7_order_7 rfl ?_
      -- at 8: .invokestatic 84
      refine tr_Si (As := [_]) dX7_order_8 fm_RX7_84 rfl rfl (Nat.le_of_ble_eq_true rfl) (c_isRow (d := d + 10)) (fun v μ1 ⟨e1, e2⟩ => ?_)
      subst μ1; subst v
      cases hy : ixV y 6 with
      | none =>
        refine tr_ifb1 (tgt := 16) dX7_order_11 (by decide) (fun h2 => ?_) (fun h2 => ?_)
        · cases h2
        · refine tr_iconst (v := -1) dX7_order_14 (by decide) ?_
          -- at 15: .ireturn
          refine tr_iret dX7_order_15 (by first | exact trivial | rfl) (po_same h (by simp only [S_order, hx, hy]))
      | some l =>
        obtain ⟨rfl, hl⟩ := ixV_some (by omega) hy
        refine tr_ifb1 (tgt := 16) dX7_order_11 (by decide) (fun h2 => ?_) (fun h2 => ?_)
        · refine tr_aload_n dX7_order_16 rfl ?_
          refine tr_iload_n dX7_order_17 rfl ?_
          -- at 18: .invokevirtual 236
          refine tr_Vi (As := [_]) dX7_order_18 fm_RX7_236 rfl rfl (by first | assumption | decide) (by first | assumption | rfl) (Nat.le_of_ble_eq_true rfl) (c_mref (d := d + 8) h hW hj) (fun v μ1 hm => ?_)
          cases hq : mref σ j with
          | some p =>
            rw [hq] at hm
            obtain ⟨m1, m2, m3, m4⟩ := hm
            have e : S_order σ (nI j) (nI l) = p := by simp only [S_order, hx, hy, hq]
            rw [e]
            refine tr_istore_n_3 dX7_order_21 (by decide) rfl ?_
            refine tr_iload_n dX7_order_22 rfl ?_
            -- at 23: .ifCond .eq 5
            refine tr_if_eq (tgt := 28) dX7_order_23 (by decide) (fun h3 => ?_) (fun h3 => ?_)
            · exact absurd h3 m4
            · refine tr_iload_n dX7_order_26 rfl ?_
              -- at 27: .ireturn
              refine tr_iret dX7_order_27 (by first | exact trivial | rfl) ⟨m1, m2, m3⟩
          | none =>
            rw [hq] at hm
            obtain ⟨m1, m2⟩ := hm
            subst v; subst μ1
            obtain ⟨n, f, ho, hn0, hn5, hwi⟩ := mref_none hq
            have e : S_order σ (nI j) (nI l) = if (ordM σ n f).1 = 301 then (-9, σ) else (nI (ordM σ n f).1, gR σ l (some (n, fun k => nI ((ordM σ n f).2.getD k 0)))) := by simp only [S_order, hx, hy, hq, ho]
            rw [e]
            obtain ⟨⟨i0, i1⟩, s0, s1⟩ := isR_r hj
            obtain ⟨⟨l0, l1⟩, t0, t1⟩ := isR_r hl
            have hX := h.1 j hj
            rw [ho] at hX
            have x1 := hX.1
            have hg : ∀ k, k < n → f k = nI (f k).toNatClampNeg ∧ (f k).toNatClampNeg < 2 ^ 31 := by
              intro k hk
              have hfi := of_decide_eq_true hwi k hk
              obtain ⟨q, hq, eq⟩ := nI_of (Int32.not_lt.mpr hfi.1)
              rw [eq, nI_clamp hq]
              exact ⟨rfl, hq⟩
            have hlen : (ordM σ n f).1 ≠ 301 → (ordM σ n f).2.length = n := by
              intro hne
              rcases dfs_len (N := n) (g := fun k => (f k).toNatClampNeg) n [] 0 (nowM σ) (301, []) with a | a
              · exact absurd (congrArg Prod.fst a) hne
              · exact a.trans (by simp)
            have key := c_search (X := X) (d := d + (5 - n)) hj hn5 hg hw h.2.2.2.1 hX (D := ordM σ n f) rfl
            rw [show d + (5 - n) + n + 6 = d + 11 by omega] at key
            generalize ordM σ n f = D at hlen key ⊢
            refine tr_istore_n_3 dX7_order_21 (by decide) rfl ?_
            refine tr_iload_n dX7_order_22 rfl ?_
            -- at 23: .ifCond .eq 5
            refine tr_if_eq (tgt := 28) dX7_order_23 (by decide) (fun h3 => ?_) (fun h3 => ?_)
            · refine tr_aload_n dX7_order_28 rfl ?_
              refine tr_getR dX7_order_29 fg_RX7_11 (by first | assumption | decide) (by first | assumption | rfl) rfl (by omega) ?_
              refine tr_iload_n dX7_order_32 rfl ?_
              -- at 33: .aaload
              refine tr_aald dX7_order_33 (by first | assumption | decide) (by first | assumption | rfl) (by decide) rfl (row_at hj) (by decide) ?_
              refine tr_getI dX7_order_34 fg_RX7_109 (by first | assumption | decide) (by first | assumption | rfl) rfl (by first | assumption | rfl) ?_
              refine tr_istore_4 dX7_order_37 (by decide) rfl ?_
              refine tr_aload_n dX7_order_39 rfl ?_
              refine tr_getR dX7_order_40 fg_RX7_51 (by first | assumption | decide) (by first | assumption | rfl) rfl (by omega) ?_
              refine tr_aload_n dX7_order_43 rfl ?_
              refine tr_getR dX7_order_44 fg_RX7_28 (by first | assumption | decide) (by first | assumption | rfl) rfl (by omega) ?_
              refine tr_aload_n dX7_order_47 rfl ?_
              refine tr_getR dX7_order_48 fg_RX7_11 (by first | assumption | decide) (by first | assumption | rfl) rfl (by omega) ?_
              refine tr_iload_n dX7_order_51 rfl ?_
              -- at 52: .aaload
              refine tr_aald dX7_order_52 (by first | assumption | decide) (by first | assumption | rfl) (by decide) rfl (row_at hj) (by decide) ?_
              refine tr_Vi (As := [_, _]) dX7_order_53 fm_RX7_242 rfl rfl (by first | assumption | decide) (by first | assumption | rfl) (Nat.le_of_ble_eq_true rfl) (key) (fun v μ1 ⟨e1, e2, e3, e4⟩ => ?_)
              subst v
              have hc1 := h.scr e1
              have hf1 := e1.fr (fun b hb => by unfold scr at hb; omega)
              refine tr_istore_5 dX7_order_56 (by decide) rfl ?_
              refine tr_iload dX7_order_58 rfl ?_
              refine tr_bipush (v := -9) dX7_order_60 (by decide) ?_
              -- at 62: .if_icmp .eq 37
              by_cases hD : D.1 = 301
              · rw [if_pos hD, if_pos hD]
                refine tr_icmp_eq (tgt := 99) dX7_order_62 (by decide) (fun h4 => ?_) (fun h4 => ?_)
                · refine tr_iload dX7_order_99 rfl ?_
                  -- at 101: .ireturn
                  refine tr_iret dX7_order_101 (by first | exact trivial | rfl) ⟨rfl, hc1, hf1⟩
                · exact absurd rfl h4
              · rw [if_neg hD, if_neg hD]
                have hlen' := hlen hD
                refine tr_icmp_eq (tgt := 99) dX7_order_62 (by decide) (fun h4 => ?_) (fun h4 => ?_)
                · exact absurd h4 (nI_m9 (by omega))
                · refine tr_aload_n dX7_order_65 rfl ?_
                  refine tr_getR dX7_order_66 fg_RX7_11 (by first | assumption | decide) (by first | assumption | rfl) rfl (by omega) ?_
                  refine tr_iload_n dX7_order_69 rfl ?_
                  -- at 70: .aaload
                  refine tr_aald dX7_order_70 (by first | assumption | decide) (by first | assumption | rfl) (by decide) rfl (row_at hl) (by decide) ?_
                  refine tr_iload dX7_order_71 rfl ?_
                  -- at 73: .invokevirtual 92
                  refine tr_Vv (As := [_]) dX7_order_73 fm_RX7_92 rfl rfl (by first | assumption | decide) (by first | assumption | rfl) (Nat.le_of_ble_eq_true rfl) (c_rbegin (d := d + 10) (n := n) (isR_r hl) (by omega)) (fun μ2 ⟨g1, g2⟩ => ?_)
                  have hs2 := sP.of (P := fun b => b = 73 + 2 * l ∨ b = 74 + 2 * l) g1 (fun b hb => by simp at hb; omega)
                  refine tr_aload_n dX7_order_76 rfl ?_
                  refine tr_getR dX7_order_77 fg_RX7_51 (by first | assumption | decide) (by first | assumption | rfl) rfl (by omega) ?_
                  refine tr_getR dX7_order_80 fg_RX7_246 (by first | assumption | decide) (by first | assumption | rfl) rfl (by omega) ?_
                  refine tr_iconst (v := nI 0) dX7_order_83 (by decide) ?_
                  refine tr_aload_n dX7_order_84 rfl ?_
                  refine tr_getR dX7_order_85 fg_RX7_11 (by first | assumption | decide) (by first | assumption | rfl) rfl (by omega) ?_
                  refine tr_iload_n dX7_order_88 rfl ?_
                  -- at 89: .aaload
                  refine tr_aald dX7_order_89 (by first | assumption | decide) (by first | assumption | rfl) (by decide) rfl (row_at hl) (by decide) ?_
                  refine tr_getR dX7_order_90 fg_RX7_100 (by first | assumption | decide) (by first | assumption | rfl) rfl (by omega) ?_
                  refine tr_iconst (v := nI 0) dX7_order_93 (by decide) ?_
                  refine tr_iload dX7_order_94 rfl ?_
                  -- at 96: .invokestatic 118
                  refine tr_acopy dX7_order_96 fa_RX7_118 (by first | assumption | decide) (by first | assumption | decide) (by first | assumption | rfl) (by first | assumption | rfl) rfl rfl rfl (by omega) (by omega) (by omega) (by omega) (Nat.le_of_ble_eq_true rfl) ?_
                  have hs3 := hs2.put (a := 73 + 2 * l + 1) (va_cpy (μ2.1 29) (μ2.1 (73 + 2 * l + 1)) 0 0 n) (Or.inr (by omega))
                  have hx3 : XR 40 (sI μ2 (73 + 2 * l + 1) (va_cpy (μ2.1 29) (μ2.1 (73 + 2 * l + 1)) 0 0 n)) (73 + 2 * l) (some (n, fun k => nI (D.2.getD k 0))) := by
                    refine ⟨by rw [sI_ne _ _ (by omega)]; exact g2.1, by omega, fun q hq => ?_⟩
                    rw [sI_same, pk_cpy_in (by omega) (by omega)]
                    simp only [Nat.sub_zero, Nat.zero_add]
                    rw [g1.1 29 (by simp; omega)]
                    exact e4 q (by omega)
                  generalize sI μ2 (73 + 2 * l + 1) (va_cpy (μ2.1 29) (μ2.1 (73 + 2 * l + 1)) 0 0 n) = μ3 at hs3 hx3 ⊢
                  refine tr_iload dX7_order_99 rfl ?_
                  -- at 101: .ireturn
                  refine tr_iret dX7_order_101 (by first | exact trivial | rfl) ⟨rfl, hc1.row hs3 hl hx3, hf1.trans (hs3.fr (fun b hb => by omega))⟩
            · exact absurd rfl h3
        · cases h2
end F11
