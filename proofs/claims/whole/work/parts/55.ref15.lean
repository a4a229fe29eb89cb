-- ===== the reference: order =====
theorem nI_m9' {k : Nat} (hk : k < 2 ^ 31) : ¬ nI k = -9 := by
  intro h
  have : (nI k).toInt = (-9 : Int32).toInt := by rw [h]
  rw [nI_toInt hk] at this
  have : (-9 : Int32).toInt = -9 := rfl
  omega
def svM (r : OST) : Int32 := match r with
  | none => -1
  | some x => nI x.2.1
def bsM (o : Option Nat) : Int32 := match o with
  | none => -9
  | some k => nI k
theorem upR_le (r : OST) (code : Nat) (a : AR) : (upR r code a).1 ≤ a.1 ∧ ∀ k, (upR r code a).2 = some k → k = code ∨ a.2 = some k := by
  cases r with
  | none => exact ⟨Nat.le_refl _, fun k hk => Or.inr hk⟩
  | some x =>
    show (if x.2.1 < a.1 then (x.2.1, some code) else a).1 ≤ a.1 ∧ ∀ k, (if x.2.1 < a.1 then (x.2.1, some code) else a).2 = some k → _
    split
    · exact ⟨by show x.2.1 ≤ a.1; omega, fun k hk => Or.inl (by cases hk; rfl)⟩
    · exact ⟨Nat.le_refl _, fun k hk => Or.inr hk⟩
theorem fB_le (N : Nat) (g : Nat → Nat) (m : Nat) (st : OST) : ∀ K, (fB N g m st 0 (9999, none) K).1 ≤ 9999 ∧ ∀ k, (fB N g m st 0 (9999, none) K).2 = some k → k < K
  | 0 => ⟨Nat.le_refl _, fun k hk => by cases hk⟩
  | K + 1 => by
    obtain ⟨h1, h2⟩ := fB_le N g m st K
    rw [fB]
    obtain ⟨h3, h4⟩ := upR_le (evl N g m st (0 + K)) (0 + K) (fB N g m st 0 (9999, none) K)
    refine ⟨by omega, fun k hk => ?_⟩
    rcases h4 k hk with e | e
    · omega
    · have := h2 k e; omega
def cat7 (a b c d e f g : Value) : Prop := a.category = 1 ∧ b.category = 1 ∧ c.category = 1 ∧ d.category = 1 ∧ e.category = 1 ∧ f.category = 1 ∧ g.category = 1
theorem tw_for7 {X : Nat × (Nat → Int32)} {d : Nat} {K : am_K} {Q : Option Value → am_M → Prop} {pc : Nat} {n : Nat} {Lf : Nat → Value → Value → Value → Value → Value → Value → Value → List Value} {P : Nat → am_M → Prop} (step : ∀ k a b c e f g h μ, cat7 a b c e f g h → k < n → P k μ → (∀ a b c e f g h μ', cat7 a b c e f g h → P (k + 1) μ' → tw X d K Q pc (Lf (k + 1) a b c e f g h) [] μ') → tw X d K Q pc (Lf k a b c e f g h) [] μ) (fin : ∀ a b c e f g h μ, cat7 a b c e f g h → P n μ → tw X d K Q pc (Lf n a b c e f g h) [] μ) (k : Nat) (a b c e f g h : Value) (μ : am_M) (hk : k ≤ n) (hc : cat7 a b c e f g h) (hP : P k μ) : tw X d K Q pc (Lf k a b c e f g h) [] μ := by
  obtain ⟨m, hm⟩ : ∃ m, k + m = n := ⟨n - k, by omega⟩
  induction m generalizing k a b c e f g h μ with
  | zero =>
    have e : k = n := by omega
    subst e
    exact fin _ _ _ _ _ _ _ μ hc hP
  | succ m ih => exact step k _ _ _ _ _ _ _ μ hc (by omega) hP (fun a b c e f g h μ' hc' h' => ih (k + 1) _ _ _ _ _ _ _ μ' (by omega) hc' h' (by omega))
section M15
variable {X : Nat × (Nat → Int32)} {d : Nat} {μ : am_M} {σ : SG} {a b i j n p : Nat} {c : NF} {r x y z w : Int32} {f : Nat → Int32}
theorem l_rin {Q : Option Value → am_M → Prop} {tv am bst lst cds : Int32} {N code : Nat} {g : Nat → Nat} (hj : j < 6) (hN : N ≤ 5) (hN0 : 0 < N) (hcode : code < 4000) (hpw : ∀ q, q ≤ N → N ^ q < 4000) (hfg : ∀ q, q < N → f q = nI (g q) ∧ g q < 2 ^ 31) (hQ : ∀ (r9 r10 : Int32) (k : Nat) (v : OST) (w13 w14 w15 : Value) (μ' : am_M), w13.category = 1 → w14.category = 1 → w15.category = 1 → same μ μ' [107] → v = evl N g N (some ([], 0, c)) code → (∀ x, v = some x → x.2.1 ≤ 300) → tw X (d + 5) kX8_order Q 232 [.ref 99, .int (nI j), .int tv, .int am, .int (nI N), .int cds, .int bst, .int lst, .int (nI code), .int r9, .int r10, .int (svM v), .int (nI k), w13, w14, w15] [] μ') (hX : RX 40 μ 100 101 j (some (N, f))) : ∀ (m k : Nat) (ps : List Nat) (t : Nat) (c1 : NF) (w13 w14 w15 : Value) (μ1 : am_M), k + m = N → ps.length = k → (∀ q ∈ ps, q < N) → t ≤ 60 * k → wfc c1 → w13.category = 1 → w14.category = 1 → w15.category = 1 → same μ μ1 [107] → MR μ1 107 c1 → evl N g N (some ([], 0, c)) code = evl N g m (some (ps, t, c1)) code → tw X (d + 5) kX8_order Q 122 [.ref 99, .int (nI j), .int tv, .int am, .int (nI N), .int cds, .int bst, .int lst, .int (nI code), .int (nI (N ^ m)), .int (nI (usM ps)), .int (nI t), .int (nI k), w13, w14, w15] [] μ1
  | m, k, ps, t, c1, w13, w14, w15, μ1, hkm, hpl, hps, ht, hw, d13, d14, d15, hs, hr, hev => by
    have hus := usM_lt ps N hps
    have hus2 : usM ps < 32 := Nat.lt_of_lt_of_le hus (Nat.pow_le_pow_right (n := 2) (by omega) hN)
    have hdone : ∀ (r9 r10 : Int32) (k : Nat) (w13 w14 w15 : Value) (μ' : am_M), k ≤ 5 → w13.category = 1 → w14.category = 1 → w15.category = 1 → same μ μ' [107] → evl N g N (some ([], 0, c)) code = none → tw X (d + 5) kX8_order Q 122 [.ref 99, .int (nI j), .int tv, .int am, .int (nI N), .int cds, .int bst, .int lst, .int (nI code), .int r9, .int r10, .int (-1), .int (nI k), w13, w14, w15] [] μ' := by
      intro r9 r10 k w13 w14 w15 μ' hk5 d13 d14 d15 hs' he
      have hq := hQ r9 r10 k none w13 w14 w15 μ' d13 d14 d15 hs' he.symm (fun x hx => by cases hx)
      refine tr_iload dX8_order_122 rfl ?_
      refine tr_iload dX8_order_124 rfl ?_
      -- at 126: .if_icmp .ge 106
      refine tr_geN (tgt := 232) dX8_order_126 (by decide) (by omega) (by omega) (fun h1 => ?_) (fun h1 => ?_)
      · exact hq
      · refine tr_iload dX8_order_129 rfl ?_
        -- at 131: .ifCond .lt 101
        refine tr_if_lt (tgt := 232) dX8_order_131 (by decide) (fun h2 => ?_) (fun h2 => ?_)
        · exact hq
        · exact absurd (show (-1 : Int32) < 0 by decide) h2
    cases m with
    | zero =>
      refine tr_iload dX8_order_122 rfl ?_
      refine tr_iload dX8_order_124 rfl ?_
      -- at 126: .if_icmp .ge 106
      refine tr_geN (tgt := 232) dX8_order_126 (by decide) (by omega) (by omega) (fun h1 => ?_) (fun h1 => ?_)
      · exact hQ _ _ k (some (ps, t, c1)) _ _ _ μ1 d13 d14 d15 hs hev.symm (fun x hx => by cases hx; show t ≤ 300; omega)
      · omega
    | succ m =>
      rw [evl] at hev
      have hq : code / N ^ m % N < N := Nat.mod_lt _ hN0
      have hB0 := hpw m (by omega)
      have hB1 := hpw (m + 1) (by omega)
      have hBd : N ^ (m + 1) / N = N ^ m := by rw [Nat.pow_succ, Nat.mul_div_cancel _ hN0]
      have hBp : 0 < N ^ m := Nat.pow_pos hN0
      have hrec : ∀ (ps' : List Nat) (t' : Nat) (c' : NF) (w13 w14 w15 : Value) (μ' : am_M), ps'.length = k + 1 → (∀ q ∈ ps', q < N) → t' ≤ 60 * (k + 1) → wfc c' → w13.category = 1 → w14.category = 1 → w15.category = 1 → same μ μ' [107] → MR μ' 107 c' → evl N g N (some ([], 0, c)) code = evl N g m (some (ps', t', c')) code → tw X (d + 5) kX8_order Q 122 [.ref 99, .int (nI j), .int tv, .int am, .int (nI N), .int cds, .int bst, .int lst, .int (nI code), .int (nI (N ^ m)), .int (nI (usM ps')), .int (nI t'), .int (nI (k + 1)), w13, w14, w15] [] μ' := fun ps' t' c' w13 w14 w15 μ' => l_rin hj hN hN0 hcode hpw hfg hQ hX m (k + 1) ps' t' c' w13 w14 w15 μ' (by omega)
      generalize N ^ (m + 1) = B1 at *
      generalize N ^ m = B0 at *
      have hX1 : RX 40 μ1 100 101 j (some (N, f)) := hX.kept (hs.1 100 (by decide)) (hs.1 101 (by decide))
      have h7 := hw.1
      refine tr_iload dX8_order_122 rfl ?_
      refine tr_iload dX8_order_124 rfl ?_
      -- at 126: .if_icmp .ge 106
      refine tr_geN (tgt := 232) dX8_order_126 (by decide) (by omega) (by omega) (fun h1 => ?_) (fun h1 => ?_)
      · omega
      · refine tr_iload dX8_order_129 rfl ?_
        -- at 131: .ifCond .lt 101
        refine tr_if_lt (tgt := 232) dX8_order_131 (by decide) (fun h2 => ?_) (fun h2 => ?_)
        · exact absurd h2 (nI_pos (by omega))
        · refine tr_iload dX8_order_134 rfl ?_
          refine tr_iload dX8_order_136 rfl ?_
          first | with_reducible refine tr_idivN dX8_order_138 (by omega) (by omega) (by omega) ?_ | refine tr_idiv dX8_order_138 (by decide) ?_
          -- at 139: .istore 9
          rw [hBd]
          have hcd : code / B0 ≤ code := Nat.div_le_self _ _
          refine tr_istore_9 dX8_order_139 (by decide) (by first | rfl | assumption) ?_
          refine tr_iload dX8_order_141 rfl ?_
          refine tr_iload dX8_order_143 rfl ?_
          first | with_reducible refine tr_idivN dX8_order_145 (by omega) (by omega) (by omega) ?_ | refine tr_idiv dX8_order_145 (by decide) ?_
          refine tr_iload dX8_order_146 rfl ?_
          first | with_reducible refine tr_iremN dX8_order_148 (by omega) (by omega) (by omega) ?_ | refine tr_irem dX8_order_148 (by decide) ?_
          -- at 149: .istore 13
          generalize hqq : code / B0 % N = q at *
          obtain ⟨fq1, fq2⟩ := hfg q hq
          have r3 : μ1.1 101 (40 * j + q) = nI (g q) := by rw [hX1.2.2 q hq, fq1]
          refine tr_istore_13 dX8_order_149 (by decide) (by first | rfl | assumption) ?_
          refine tr_iload dX8_order_151 rfl ?_
          refine tr_iload dX8_order_153 rfl ?_
          -- at 155: .invokestatic 137
          refine tr_Si (As := [_, _]) dX8_order_155 fm_RX8_137 rfl rfl (Nat.le_of_ble_eq_true rfl) (r_has (s := usM ps) (by omega) (by omega)) (fun v μ2 ⟨e1, e2⟩ => ?_)
          subst μ2; subst v
          refine tr_istore_14 dX8_order_158 (by decide) (by first | rfl | assumption) ?_
          refine tr_iload dX8_order_160 rfl ?_
          refine tr_iconst (v := nI 1) dX8_order_162 (by decide) ?_
          refine tr_iload dX8_order_163 rfl ?_
          refine tr_ishl dX8_order_165 ?_
          refine tr_ior dX8_order_166 ?_
          -- at 167: .istore 10
          refine tr_v (or_bit10 q (by omega) (usM ps) (by omega)) ?_
          rw [← usM_app]
          refine tr_istore_10 dX8_order_167 (by decide) (by first | rfl | assumption) ?_
          refine tr_aload_n dX8_order_169 rfl ?_
          refine tr_aload_n dX8_order_170 rfl ?_
          refine tr_getR dX8_order_171 fg_RX8_32 (by first | assumption | decide) (by first | assumption | rfl) rfl (by omega) ?_
          refine tr_aload_n dX8_order_174 rfl ?_
          refine tr_getR dX8_order_175 fg_RX8_13 (by first | assumption | decide) (by first | assumption | rfl) rfl (by omega) ?_
          refine tr_bipush (v := nI 40) dX8_order_178 (by decide) ?_
          refine tr_iload_n dX8_order_180 rfl ?_
          first | with_reducible refine tr_imulN dX8_order_181 ?_ | refine tr_imul dX8_order_181 ?_
          refine tr_iload dX8_order_182 rfl ?_
          first | with_reducible refine tr_iaddN dX8_order_184 ?_ | refine tr_iadd dX8_order_184 ?_
          refine tr_iald dX8_order_185 (by first | assumption | decide) (by first | assumption | rfl) rfl (by omega) (by omega) (by first | assumption | rfl) ?_
          -- at 186: .invokevirtual 180
          refine tr_Vv (As := [_, _]) dX8_order_186 fm_RX8_180 rfl rfl (by first | assumption | decide) (by first | assumption | rfl) (Nat.le_of_ble_eq_true rfl) (r_aims fq2 isA_107 hr hw) (fun μ2 ⟨e1, e2⟩ => ?_)
          have hs2 := hs.trans e1
          have hwa : wfc (aimM (c1 18) (g q) c1) := aimM_wf _ _ _ h7 hw
          rw [usM_bit]
          have htl := tM_le 61 (aimM (c1 18) (g q) c1)
          unfold stp at hev
          dsimp only at hev
          refine tr_iload dX8_order_189 rfl ?_
          -- at 191: .ifCond .eq 8
          refine tr_ifb0 (tgt := 199) dX8_order_191 (by decide) (fun h3 => ?_) (fun h3 => ?_)
          · have h3' := of_decide_eq_false h3
            rw [if_neg h3'] at hev
            refine tr_aload_n dX8_order_199 rfl ?_
            refine tr_getR dX8_order_200 fg_RX8_32 (by first | assumption | decide) (by first | assumption | rfl) rfl (by omega) ?_
            -- at 203: .invokestatic 174
            refine tr_Si (As := [_]) dX8_order_203 fm_RX8_174 rfl rfl (Nat.le_of_ble_eq_true rfl) (r_told isA_107 e2 hwa) (fun v μ3 ⟨u1, u2, u3⟩ => ?_)
            subst v
            have hs3 := hs2.trans u1
            have hwg := goI_wf (tM 61 (aimM (c1 18) (g q) c1)) _ hwa
            generalize tM 61 (aimM (c1 18) (g q) c1) = T at *
            by_cases hT : T < 61
            · rw [if_pos (by omega)] at hev
              rw [if_pos hT]
              refine tr_istore_15 dX8_order_206 (by decide) (by first | rfl | assumption) ?_
              refine tr_iload dX8_order_208 rfl ?_
              refine tr_bipush (v := -9) dX8_order_210 (by decide) ?_
              -- at 212: .if_icmp .ne 7
              refine tr_icmp_ne (tgt := 219) dX8_order_212 (by decide) (fun h4 => ?_) (fun h4 => ?_)
              · refine tr_iload dX8_order_219 rfl ?_
                refine tr_iload dX8_order_221 rfl ?_
                first | with_reducible refine tr_iaddN dX8_order_223 ?_ | refine tr_iadd dX8_order_223 ?_
                refine tr_istore_11 dX8_order_224 (by decide) (by first | rfl | assumption) ?_
                first | with_reducible refine tr_iincN_12 dX8_order_226 (by decide) rfl ?_ | with_reducible refine tr_iincN_12 dX8_order_226 (by decide) (by assumption) ?_ | refine tr_iinc_12 dX8_order_226 (by decide) (by first | rfl | assumption) ?_
                refine tr_goto (tgt := 122) dX8_order_229 (by decide) ?_
                -- at 122: .iload 12
                exact hrec (ps ++ [q]) (t + T) _ _ _ _ μ3 (by rw [List.length_append, hpl]; rfl) (fun x hx => by
                  rcases List.mem_append.mp hx with hx | hx
                  · exact hps x hx
                  · rw [List.mem_singleton.mp hx]; exact hq) (by omega) hwg rfl (by cases decide (q ∈ ps) <;> rfl) rfl hs3 u3 hev
              · exact absurd h4 (nI_m9' (by omega))
            · rw [if_neg (by omega), evl_none] at hev
              rw [if_neg hT]
              refine tr_istore_15 dX8_order_206 (by decide) (by first | rfl | assumption) ?_
              refine tr_iload dX8_order_208 rfl ?_
              refine tr_bipush (v := -9) dX8_order_210 (by decide) ?_
              -- at 212: .if_icmp .ne 7
              refine tr_icmp_ne (tgt := 219) dX8_order_212 (by decide) (fun h4 => ?_) (fun h4 => ?_)
              · exact absurd rfl h4
              · refine tr_iconst (v := -1) dX8_order_215 (by decide) ?_
                refine tr_goto (tgt := 224) dX8_order_216 (by decide) ?_
                refine tr_istore_11 dX8_order_224 (by decide) (by first | rfl | assumption) ?_
                first | with_reducible refine tr_iincN_12 dX8_order_226 (by decide) rfl ?_ | with_reducible refine tr_iincN_12 dX8_order_226 (by decide) (by assumption) ?_ | refine tr_iinc_12 dX8_order_226 (by decide) (by first | rfl | assumption) ?_
                refine tr_goto (tgt := 122) dX8_order_229 (by decide) ?_
                -- at 122: .iload 12
                exact hdone _ _ (k + 1) _ _ _ μ3 (by omega) rfl rfl rfl hs3 hev
          · have h3' := of_decide_eq_true h3
            rw [if_pos h3', evl_none] at hev
            refine tr_bipush (v := -9) dX8_order_194 (by decide) ?_
            refine tr_goto (tgt := 206) dX8_order_196 (by decide) ?_
            refine tr_istore_15 dX8_order_206 (by decide) (by first | rfl | assumption) ?_
            refine tr_iload dX8_order_208 rfl ?_
            refine tr_bipush (v := -9) dX8_order_210 (by decide) ?_
            -- at 212: .if_icmp .ne 7
            refine tr_icmp_ne (tgt := 219) dX8_order_212 (by decide) (fun h4 => ?_) (fun h4 => ?_)
            · exact absurd rfl h4
            · refine tr_iconst (v := -1) dX8_order_215 (by decide) ?_
              refine tr_goto (tgt := 224) dX8_order_216 (by decide) ?_
              refine tr_istore_11 dX8_order_224 (by decide) (by first | rfl | assumption) ?_
              first | with_reducible refine tr_iincN_12 dX8_order_226 (by decide) rfl ?_ | with_reducible refine tr_iincN_12 dX8_order_226 (by decide) (by assumption) ?_ | refine tr_iinc_12 dX8_order_226 (by decide) (by first | rfl | assumption) ?_
              refine tr_goto (tgt := 122) dX8_order_229 (by decide) ?_
              -- at 122: .iload 12
              exact hdone _ _ (k + 1) _ _ _ μ2 (by omega) rfl rfl rfl hs2 hev
  termination_by m => m
theorem l_rwr {Q : Option Value → am_M → Prop} {am cds lst : Int32} {l N : Nat} {js : Int32} {ls : List Nat} (hl : l < 6) (hN : N ≤ 5) (hN0 : 0 < N) (hlen : ls.length = N) (hls : ∀ q ∈ ls, q < N) {w9 w10 w11 w12 w13 w14 w15 : Value} (hw15 : cat7 w9 w10 w11 w12 w13 w14 w15) (hQ : ∀ (b : Int32) (v8 : Value) (μ' : am_M), sP (fun b => b = 101) μ μ' → (∀ i, i < N → μ'.1 101 (40 * l + i) = nI (ls.getD i 0)) → (∀ q, q < 6 → q ≠ l → ∀ i, i < 40 → μ'.1 101 (40 * q + i) = μ.1 101 (40 * q + i)) → tw X d kX8_order Q 343 [.ref 99, .int js, .int (nI l), .int am, .int (nI N), .int cds, .int b, .int lst, v8, w9, w10, w11, w12, w13, w14, w15] [] μ') : ∀ (k : Nat) (μ1 : am_M), k ≤ N → sP (fun b => b = 101) μ μ1 → (∀ i, k ≤ i → i < N → μ1.1 101 (40 * l + i) = nI (ls.getD i 0)) → (∀ q, q < 6 → q ≠ l → ∀ i, i < 40 → μ1.1 101 (40 * q + i) = μ.1 101 (40 * q + i)) → tw X d kX8_order Q 308 [.ref 99, .int js, .int (nI l), .int am, .int (nI N), .int cds, .int (nI (dgs N (ls.take k))), .int lst, .int (nI k - nI 1), w9, w10, w11, w12, w13, w14, w15] [] μ1
  | 0, μ1, hk, hs, h1, h2 => by
    refine tr_iload dX8_order_308 rfl ?_
    -- at 310: .ifCond .lt 33
    refine tr_if_lt (tgt := 343) dX8_order_310 (by decide) (fun g1 => ?_) (fun g1 => ?_)
    · exact hQ _ _ μ1 hs (fun i hi => h1 i (by omega) hi) h2
    · exact absurd (show nI 0 - nI 1 < 0 by decide) g1
  | k + 1, μ1, hk, hs, h1, h2 => by
    rw [pk_sub (by omega), Nat.add_sub_cancel]
    have hd := dgs_take (N := N) ls (k := k) (by omega)
    have hg : ls.getD k 0 < N := by
      refine hls _ ?_
      rw [List.getD_eq_getElem?_getD, List.getElem?_eq_getElem (show k < ls.length by omega)]
      exact List.getElem_mem _
    have hlt : dgs N (ls.take (k + 1)) < 4000 := by
      have h3 := dgs_lt (N := N) (ls.take (k + 1)) (fun q hq => hls q (List.mem_of_mem_take hq))
      rw [List.length_take_of_le (by omega)] at h3
      have h4 : N ^ (k + 1) ≤ 5 ^ (k + 1) := Nat.pow_le_pow_left hN _
      have h5 : 5 ^ (k + 1) ≤ 5 ^ 5 := Nat.pow_le_pow_right (by omega) (by omega)
      have h6 : 5 ^ 5 = 3125 := by decide
      omega
    have hmod : dgs N (ls.take (k + 1)) % N = ls.getD k 0 := by
      rw [hd, Nat.mul_comm, Nat.mul_add_mod, Nat.mod_eq_of_lt hg]
    have hdiv : dgs N (ls.take (k + 1)) / N = dgs N (ls.take k) := by
      rw [hd, Nat.mul_comm, Nat.mul_add_div hN0, Nat.div_eq_of_lt hg, Nat.add_zero]
    have hrec := l_rwr hl hN hN0 hlen hls hw15 hQ k
    obtain ⟨d9, d10, d11, d12, d13, d14, d15⟩ := hw15
    generalize dgs N (ls.take (k + 1)) = D at *
    refine tr_iload dX8_order_308 rfl ?_
    -- at 310: .ifCond .lt 33
    refine tr_if_lt (tgt := 343) dX8_order_310 (by decide) (fun g1 => ?_) (fun g1 => ?_)
    · exact absurd g1 (nI_pos (by omega))
    · refine tr_aload_n dX8_order_313 rfl ?_
      refine tr_getR dX8_order_314 fg_RX8_13 (by first | assumption | decide) (by first | assumption | rfl) rfl (by omega) ?_
      refine tr_bipush (v := nI 40) dX8_order_317 (by decide) ?_
      refine tr_iload_n dX8_order_319 rfl ?_
      first | with_reducible refine tr_imulN dX8_order_320 ?_ | refine tr_imul dX8_order_320 ?_
      refine tr_iload dX8_order_321 rfl ?_
      first | with_reducible refine tr_iaddN dX8_order_323 ?_ | refine tr_iadd dX8_order_323 ?_
      refine tr_iload dX8_order_324 rfl ?_
      refine tr_iload dX8_order_326 rfl ?_
      first | with_reducible refine tr_iremN dX8_order_328 (by omega) (by omega) (by omega) ?_ | refine tr_irem dX8_order_328 (by decide) ?_
      -- at 329: .iastore
      rw [hmod]
      refine tr_iast dX8_order_329 (by first | assumption | decide) (by first | assumption | rfl) rfl (by omega) (by omega) ?_
      refine tr_iload dX8_order_330 rfl ?_
      refine tr_iload dX8_order_332 rfl ?_
      first | with_reducible refine tr_idivN dX8_order_334 (by omega) (by omega) (by omega) ?_ | refine tr_idiv dX8_order_334 (by decide) ?_
      -- at 335: .istore 6
      rw [hdiv]
      refine tr_istore_6 dX8_order_335 (by decide) (by first | rfl | assumption) ?_
      refine tr_iincm_8 dX8_order_337 (by decide) (by first | rfl | assumption) ?_
      refine tr_goto (tgt := 308) dX8_order_340 (by decide) ?_
      -- at 308: .iload 8
      refine hrec _ (by omega) (hs.put _ rfl) (fun i hi1 hi2 => ?_) (fun q hq hql i hi => ?_)
      · rw [sI_same]
        by_cases e : i = k
        · subst e; rw [pk_us]
        · rw [pk_un (by omega)]; exact h1 i (by omega) hi2
      · rw [sI_same, pk_un (by omega)]; exact h2 q hq hql i hi
theorem r_order (h : MI μ σ) (hW : WI σ) : cp X (d + 6) kX8_order [.ref 99, .int r, .int x] μ (PM μ (S_order σ r x)) := by
  have hw := hW.now
  have h7 := hw.1
  have hm := h.2.2.1
  have k18 := hm 18 (by omega)
  refine cp_of ok_X8_order (L := [.ref 99, .int r, .int x, .float 0, .float 0, .float 0, .float 0, .float 0, .float 0, .float 0, .float 0, .float 0, .float 0, .float 0, .float 0, .float 0]) rfl ?_
  refine tr_iload_n dX8_order_0 rfl ?_
  -- at 1: .invokestatic 77
  refine tr_Si (As := [_]) dX8_order_1 fm_RX8_77 rfl rfl (Nat.le_of_ble_eq_true rfl) (r_isRow) (fun v μ1 ⟨e1, e2⟩ => ?_)
  subst μ1; subst v
  cases hr : ixV r 6 with
  | none =>
    refine tr_ifb0 (tgt := 14) dX8_order_4 (by decide) (fun h1 => ?_) (fun h1 => ?_)
    · refine tr_iconst (v := -1) dX8_order_14 (by decide) ?_
      exact tr_iret dX8_order_15 (by first | exact trivial | rfl) (pm_same h (by simp only [S_order, hr]))
    · cases h1
  | some j =>
    obtain ⟨rfl, hj⟩ := ixV_some (by omega) hr
    refine tr_ifb0 (tgt := 14) dX8_order_4 (by decide) (fun h1 => ?_) (fun h1 => ?_)
    · cases h1
    · refine tr_iload_n dX8_order_7 rfl ?_
      -- at 8: .invokestatic 77
      refine tr_Si (As := [_]) dX8_order_8 fm_RX8_77 rfl rfl (Nat.le_of_ble_eq_true rfl) (r_isRow) (fun v μ1 ⟨e1, e2⟩ => ?_)
      subst μ1; subst v
      cases hx : ixV x 6 with
      | none =>
        refine tr_ifb1 (tgt := 16) dX8_order_11 (by decide) (fun h2 => ?_) (fun h2 => ?_)
        · cases h2
        · refine tr_iconst (v := -1) dX8_order_14 (by decide) ?_
          exact tr_iret dX8_order_15 (by first | exact trivial | rfl) (pm_same h (by simp only [S_order, hr, hx]))
      | some l =>
        obtain ⟨rfl, hl⟩ := ixV_some (by omega) hx
        refine tr_ifb1 (tgt := 16) dX8_order_11 (by decide) (fun h2 => ?_) (fun h2 => ?_)
        · refine tr_aload_n dX8_order_16 rfl ?_
          refine tr_getR dX8_order_17 fg_RX8_26 (by first | assumption | decide) (by first | assumption | rfl) rfl (by omega) ?_
          refine tr_bipush (v := nI 18) dX8_order_20 (by decide) ?_
          refine tr_iald dX8_order_22 (by first | assumption | decide) (by first | assumption | rfl) rfl (by omega) (by omega) (by first | assumption | rfl) ?_
          -- at 23: .ifCond .ne 6
          refine tr_ifnN (tgt := 29) dX8_order_23 (by decide) (by omega) (fun h3 => ?_) (fun h3 => ?_)
          · have hlt := amC_lt σ j
            refine tr_aload_n dX8_order_29 rfl ?_
            refine tr_iload_n dX8_order_30 rfl ?_
            -- at 31: .invokevirtual 177
            refine tr_Vi (As := [_]) dX8_order_31 fm_RX8_177 rfl rfl (by first | assumption | decide) (by first | assumption | rfl) (Nat.le_of_ble_eq_true rfl) (r_amiss h hW hj) (fun v μ1 ⟨e1, e2⟩ => ?_)
            subst μ1; subst v
            refine tr_istore_n_3 dX8_order_34 (by decide) (by first | rfl | assumption) ?_
            refine tr_iload_n dX8_order_35 rfl ?_
            -- at 36: .ifCond .eq 9
            refine tr_if0N (tgt := 45) dX8_order_36 (by decide) (by omega) (fun h4 => ?_) (fun h4 => ?_)
            · have em : mref σ j = none := by rw [mref_am h3, if_pos h4]
              obtain ⟨N, f, ho, hn0, hn5, hwith⟩ := mref_none em
              have hX := h.1 j hj
              rw [ho] at hX
              have r1 := hX.1
              have hfit := of_decide_eq_true hwith
              have eS : S_order σ (nI j) (nI l) = if (ordM σ N f).1 = 301 then (-9, σ) else (nI (ordM σ N f).1, gR σ l (some (N, fun k => nI ((ordM σ N f).2.getD k 0)))) := by simp only [S_order, hr, hx, em, ho]
              rw [eS]
              have hRl := ord_all (σ := σ) (f := f) hn5 hn0
              have hfg : ∀ q, q < N → f q = nI ((fun k => (f k).toNatClampNeg) q) ∧ (fun k => (f k).toNatClampNeg) q < 2 ^ 31 := by
                intro q hq
                obtain ⟨v, hv, hfv⟩ := nI_of (Int32.not_lt.mpr (hfit q hq).1)
                show f q = nI (f q).toNatClampNeg ∧ (f q).toNatClampNeg < 2 ^ 31
                rw [hfv, nI_clamp hv]
                exact ⟨rfl, hv⟩
              have hpw : ∀ q, q ≤ N → N ^ q < 4000 := by
                intro q hq
                have g4 : N ^ q ≤ 5 ^ q := Nat.pow_le_pow_left hn5 _
                have g5 : 5 ^ q ≤ 5 ^ 5 := Nat.pow_le_pow_right (by omega) (by omega)
                have g6 : 5 ^ 5 = 3125 := by decide
                omega
              have hfBl := fB_le N (fun k => (f k).toNatClampNeg) N (some ([], 0, nowM σ))
              have hNN := hpw N (Nat.le_refl N)
              generalize ordM σ N f = acc at *
              generalize amC σ j = am at *
              refine tr_aload_n dX8_order_45 rfl ?_
              refine tr_getR dX8_order_46 fg_RX8_7 (by first | assumption | decide) (by first | assumption | rfl) rfl (by omega) ?_
              refine tr_iload_n dX8_order_49 rfl ?_
              refine tr_iald dX8_order_50 (by first | assumption | decide) (by first | assumption | rfl) rfl (by omega) (by omega) (by first | assumption | rfl) ?_
              refine tr_istore_4 dX8_order_51 (by decide) (by first | rfl | assumption) ?_
              refine tr_iconst (v := nI 1) dX8_order_53 (by decide) ?_
              refine tr_istore_5 dX8_order_54 (by decide) (by first | rfl | assumption) ?_
              refine tr_iconst (v := nI 0) dX8_order_56 (by decide) ?_
              refine tr_istore_6 dX8_order_57 (by decide) (by first | rfl | assumption) ?_
              -- at 59: .iload 6
              refine tw_for (n := N) (Lf := fun k => [.ref 99, .int (nI j), .int (nI l), .int (nI am), .int (nI N), .int (nI (N ^ k)), .int (nI k), .float 0, .float 0, .float 0, .float 0, .float 0, .float 0, .float 0, .float 0, .float 0]) (P := fun k μ1 => μ1 = μ) (fun k μ1 hk hP ih => ?_) (fun μ1 hP => ?_) 0 _ (by omega) rfl
              · subst hP
                refine tr_iload dX8_order_59 rfl ?_
                refine tr_iload dX8_order_61 rfl ?_
                -- at 63: .if_icmp .ge 16
                refine tr_geN (tgt := 79) dX8_order_63 (by decide) (by omega) (by omega) (fun h5 => ?_) (fun h5 => ?_)
                · omega
                · refine tr_iload dX8_order_66 rfl ?_
                  refine tr_iload dX8_order_68 rfl ?_
                  first | with_reducible refine tr_imulN dX8_order_70 ?_ | refine tr_imul dX8_order_70 ?_
                  refine tr_istore_5 dX8_order_71 (by decide) (by first | rfl | assumption) ?_
                  first | with_reducible refine tr_iincN_6 dX8_order_73 (by decide) rfl ?_ | with_reducible refine tr_iincN_6 dX8_order_73 (by decide) (by assumption) ?_ | refine tr_iinc_6 dX8_order_73 (by decide) (by first | rfl | assumption) ?_
                  refine tr_goto (tgt := 59) dX8_order_76 (by decide) ?_
                  -- at 59: .iload 6
                  exact ih _ rfl
              · subst hP
                refine tr_iload dX8_order_59 rfl ?_
                refine tr_iload dX8_order_61 rfl ?_
                -- at 63: .if_icmp .ge 16
                refine tr_geN (tgt := 79) dX8_order_63 (by decide) (by omega) (by omega) (fun h5 => ?_) (fun h5 => ?_)
                · refine tr_bipush (v := -9) dX8_order_79 (by decide) ?_
                  refine tr_istore_6 dX8_order_81 (by decide) (by first | rfl | assumption) ?_
                  refine tr_sipush (v := nI 9999) dX8_order_83 (by decide) ?_
                  refine tr_istore_7 dX8_order_86 (by decide) (by first | rfl | assumption) ?_
                  refine tr_iconst (v := nI 0) dX8_order_88 (by decide) ?_
                  refine tr_istore_8 dX8_order_89 (by decide) (by first | rfl | assumption) ?_
                  -- at 91: .iload 8
                  refine tw_for7 (n := N ^ N) (Lf := fun k a b c e f' g' h' => [.ref 99, .int (nI j), .int (nI l), .int (nI am), .int (nI N), .int (nI (N ^ N)), .int (bsM (fB N (fun k => (f k).toNatClampNeg) N (some ([], 0, nowM σ)) 0 (9999, none) k).2), .int (nI (fB N (fun k => (f k).toNatClampNeg) N (some ([], 0, nowM σ)) 0 (9999, none) k).1), .int (nI k), a, b, c, e, f', g', h']) (P := fun k μ2 => same μ1 μ2 [107]) (fun k w9 w10 w11 w12 w13 w14 w15 μ2 hc hk hP ih => ?_) (fun w9 w10 w11 w12 w13 w14 w15 μ2 hc hP => ?_) 0 (.float 0) (.float 0) (.float 0) (.float 0) (.float 0) (.float 0) (.float 0) _ (Nat.zero_le _) ⟨rfl, rfl, rfl, rfl, rfl, rfl, rfl⟩ (same.rf μ1 _)
                  · obtain ⟨c9, c10, c11, c12, c13, c14, c15⟩ := hc
                    have hM2 := h.same107 hP
                    have hm2 := hM2.2.2.1
                    have hX2 := hM2.1 j hj
                    rw [ho] at hX2
                    have hle := (hfBl k).1
                    rw [show fB N (fun k => (f k).toNatClampNeg) N (some ([], 0, nowM σ)) 0 (9999, none) (k + 1) = upR (evl N (fun k => (f k).toNatClampNeg) N (some ([], 0, nowM σ)) k) k (fB N (fun k => (f k).toNatClampNeg) N (some ([], 0, nowM σ)) 0 (9999, none) k) by rw [fB, Nat.zero_add]] at ih
                    generalize fB N (fun k => (f k).toNatClampNeg) N (some ([], 0, nowM σ)) 0 (9999, none) k = A at *
                    refine tr_iload dX8_order_91 rfl ?_
                    refine tr_iload dX8_order_93 rfl ?_
                    -- at 95: .if_icmp .ge 190
                    refine tr_geN (tgt := 285) dX8_order_95 (by decide) (by omega) (by omega) (fun h6 => ?_) (fun h6 => ?_)
                    · omega
                    · refine tr_iload dX8_order_98 rfl ?_
                      refine tr_istore_9 dX8_order_100 (by decide) (by first | rfl | assumption) ?_
                      refine tr_iconst (v := nI 0) dX8_order_102 (by decide) ?_
                      refine tr_istore_10 dX8_order_103 (by decide) (by first | rfl | assumption) ?_
                      refine tr_iconst (v := nI 0) dX8_order_105 (by decide) ?_
                      refine tr_istore_11 dX8_order_106 (by decide) (by first | rfl | assumption) ?_
                      refine tr_aload_n dX8_order_108 rfl ?_
                      refine tr_getR dX8_order_109 fg_RX8_26 (by first | assumption | decide) (by first | assumption | rfl) rfl (by omega) ?_
                      refine tr_aload_n dX8_order_112 rfl ?_
                      refine tr_getR dX8_order_113 fg_RX8_32 (by first | assumption | decide) (by first | assumption | rfl) rfl (by omega) ?_
                      -- at 116: .invokestatic 163
                      refine tr_Sv (As := [_, _]) dX8_order_116 fm_RX8_163 rfl rfl (Nat.le_of_ble_eq_true rfl) (r_copies isA_105 isA_107 (by omega) hm2) (fun μ3 ⟨e1, e2⟩ => ?_)
                      have hX3 : RX 40 μ3 100 101 j (some (N, f)) := hX2.kept (e1.1 100 (by decide)) (e1.1 101 (by decide))
                      have hs3 := hP.trans e1
                      refine tr_iconst (v := nI 0) dX8_order_119 (by decide) ?_
                      refine tr_istore_12 dX8_order_120 (by decide) (by first | rfl | assumption) ?_
                      -- at 122: .iload 12
                      refine l_rin (c := nowM σ) (g := fun k => (f k).toNatClampNeg) hj hn5 hn0 (by omega) hpw hfg (fun r9 r10 k' v w13' w14' w15' μ4 d13 d14 d15 hs4 hv hb => ?_) hX3 N 0 [] 0 (nowM σ) w13 w14 w15 μ3 (by omega) rfl (fun q hq => by cases hq) (by omega) hw c13 c14 c15 (same.rf μ3 _) e2 rfl
                      rw [← hv] at ih
                      have hs5 := hs3.trans hs4
                      have hno : upR v k A = A → tw X (d + 5) kX8_order (PM μ1 (if acc.1 = 301 then (-9, σ) else (nI acc.1, gR σ l (some (N, fun k => nI (acc.2.getD k 0)))))) 248 [.ref 99, .int (nI j), .int (nI l), .int (nI am), .int (nI N), .int (nI (N ^ N)), .int (bsM A.2), .int (nI A.1), .int (nI k), .int r9, .int r10, .int (svM v), .int (nI k'), w13', w14', w15'] [] μ4 := by
                        intro e
                        rw [e] at ih
                        refine tr_iconst (v := nI 0) dX8_order_248 (by decide) ?_
                        refine tr_istore_12 dX8_order_249 (by decide) (by first | rfl | assumption) ?_
                        refine tr_iload dX8_order_251 rfl ?_
                        -- at 253: .ifCond .eq 8
                        refine tr_if0N (tgt := 261) dX8_order_253 (by decide) (by omega) (fun g1 => ?_) (fun g1 => ?_)
                        · refine tr_iload dX8_order_261 rfl ?_
                          refine tr_istore_6 dX8_order_263 (by decide) (by first | rfl | assumption) ?_
                          refine tr_iload dX8_order_265 rfl ?_
                          -- at 267: .ifCond .eq 8
                          refine tr_if0N (tgt := 275) dX8_order_267 (by decide) (by omega) (fun g2 => ?_) (fun g2 => ?_)
                          · refine tr_iload dX8_order_275 rfl ?_
                            refine tr_istore_7 dX8_order_277 (by decide) (by first | rfl | assumption) ?_
                            first | with_reducible refine tr_iincN_8 dX8_order_279 (by decide) rfl ?_ | with_reducible refine tr_iincN_8 dX8_order_279 (by decide) (by assumption) ?_ | refine tr_iinc_8 dX8_order_279 (by decide) (by first | rfl | assumption) ?_
                            refine tr_goto (tgt := 91) dX8_order_282 (by decide) ?_
                            -- at 91: .iload 8
                            exact ih _ _ _ _ _ _ _ μ4 ⟨rfl, rfl, rfl, rfl, d13, d14, d15⟩ hs5
                          · exact absurd rfl g2
                        · exact absurd rfl g1
                      cases v with
                      | none =>
                        refine tr_iload dX8_order_232 rfl ?_
                        -- at 234: .ifCond .lt 14
                        refine tr_if_lt (tgt := 248) dX8_order_234 (by decide) (fun g1 => ?_) (fun g1 => ?_)
                        · exact hno rfl
                        · exact absurd (show (-1 : Int32) < 0 by decide) g1
                      | some V =>
                        have eu : upR (some V) k A = if V.2.1 < A.1 then (V.2.1, some k) else A := rfl
                        by_cases hlt : V.2.1 < A.1
                        · rw [eu, if_pos hlt] at ih
                          refine tr_iload dX8_order_232 rfl ?_
                          -- at 234: .ifCond .lt 14
                          refine tr_if_lt (tgt := 248) dX8_order_234 (by decide) (fun g1 => ?_) (fun g1 => ?_)
                          · exact absurd g1 (nI_pos (show V.2.1 < 2 ^ 31 by omega))
                          · refine tr_iload dX8_order_237 rfl ?_
                            refine tr_iload dX8_order_239 rfl ?_
                            -- at 241: .if_icmp .ge 7
                            refine tr_geN (tgt := 248) dX8_order_241 (by decide) (x := V.2.1) (y := A.1) (by omega) (by omega) (fun g2 => ?_) (fun g2 => ?_)
                            · omega
                            · refine tr_iconst (v := nI 1) dX8_order_244 (by decide) ?_
                              refine tr_goto (tgt := 249) dX8_order_245 (by decide) ?_
                              refine tr_istore_12 dX8_order_249 (by decide) (by first | rfl | assumption) ?_
                              refine tr_iload dX8_order_251 rfl ?_
                              -- at 253: .ifCond .eq 8
                              refine tr_if0N (tgt := 261) dX8_order_253 (by decide) (by omega) (fun g3 => ?_) (fun g3 => ?_)
                              · omega
                              · refine tr_iload dX8_order_256 rfl ?_
                                refine tr_goto (tgt := 263) dX8_order_258 (by decide) ?_
                                refine tr_istore_6 dX8_order_263 (by decide) (by first | rfl | assumption) ?_
                                refine tr_iload dX8_order_265 rfl ?_
                                -- at 267: .ifCond .eq 8
                                refine tr_if0N (tgt := 275) dX8_order_267 (by decide) (by omega) (fun g4 => ?_) (fun g4 => ?_)
                                · omega
                                · refine tr_iload dX8_order_270 rfl ?_
                                  refine tr_goto (tgt := 277) dX8_order_272 (by decide) ?_
                                  refine tr_istore_7 dX8_order_277 (by decide) (by first | rfl | assumption) ?_
                                  first | with_reducible refine tr_iincN_8 dX8_order_279 (by decide) rfl ?_ | with_reducible refine tr_iincN_8 dX8_order_279 (by decide) (by assumption) ?_ | refine tr_iinc_8 dX8_order_279 (by decide) (by first | rfl | assumption) ?_
                                  refine tr_goto (tgt := 91) dX8_order_282 (by decide) ?_
                                  -- at 91: .iload 8
                                  exact ih _ _ _ _ _ _ _ μ4 ⟨rfl, rfl, rfl, rfl, d13, d14, d15⟩ hs5
                        · have hno' := hno (by rw [eu, if_neg hlt])
                          refine tr_iload dX8_order_232 rfl ?_
                          -- at 234: .ifCond .lt 14
                          refine tr_if_lt (tgt := 248) dX8_order_234 (by decide) (fun g1 => ?_) (fun g1 => ?_)
                          · exact hno'
                          · refine tr_iload dX8_order_237 rfl ?_
                            refine tr_iload dX8_order_239 rfl ?_
                            -- at 241: .if_icmp .ge 7
                            refine tr_icmp_ge (tgt := 248) dX8_order_241 (by decide) (fun g2 => ?_) (fun g2 => ?_)
                            · exact hno'
                            · have hV := hb V rfl
                              exact absurd ((nI_leI (by omega) (by omega)).mpr (by omega)) g2
                  · have hf := fq107 hP
                    have hM2 := h.same107 hP
                    generalize fB N (fun k => (f k).toNatClampNeg) N (some ([], 0, nowM σ)) 0 (9999, none) (N ^ N) = A at *
                    refine tr_iload dX8_order_91 rfl ?_
                    refine tr_iload dX8_order_93 rfl ?_
                    -- at 95: .if_icmp .ge 190
                    refine tr_geN (tgt := 285) dX8_order_95 (by decide) (by omega) (by omega) (fun h6 => ?_) (fun h6 => ?_)
                    · refine tr_iload dX8_order_285 rfl ?_
                      refine tr_bipush (v := -9) dX8_order_287 (by decide) ?_
                      -- at 289: .if_icmp .ne 6
                      rcases hRl with ⟨q1, q2⟩ | ⟨q1, q2, q3, q4⟩
                      · rw [q2, q1, if_pos rfl]
                        refine tr_icmp_ne (tgt := 295) dX8_order_289 (by decide) (fun g1 => ?_) (fun g1 => ?_)
                        · exact absurd rfl g1
                        · refine tr_bipush (v := -9) dX8_order_292 (by decide) ?_
                          -- at 294: .ireturn
                          refine tr_iret dX8_order_294 (by first | exact trivial | rfl) ⟨rfl, hM2, hf⟩
                      · rw [q2, if_neg (by omega)]
                        have hdl := dgs_lt acc.2 q4
                        rw [q3] at hdl
                        refine tr_icmp_ne (tgt := 295) dX8_order_289 (by decide) (fun g1 => ?_) (fun g1 => ?_)
                        · refine tr_aload_n dX8_order_295 rfl ?_
                          refine tr_iload_n dX8_order_296 rfl ?_
                          refine tr_iload dX8_order_297 rfl ?_
                          -- at 299: .invokevirtual 85
                          refine tr_Vv (As := [_, _]) dX8_order_299 fm_RX8_85 rfl rfl (by first | assumption | decide) (by first | assumption | rfl) (Nat.le_of_ble_eq_true rfl) (r_anew hM2 hl (show N ≤ 40 by omega)) (fun μ3 ⟨e1, e2, e3⟩ => ?_)
                          refine tr_iload dX8_order_302 rfl ?_
                          refine tr_iconst (v := nI 1) dX8_order_304 (by decide) ?_
                          -- at 305: .isub
                          refine tr_isub dX8_order_305 ?_
                          refine tr_istore_8 dX8_order_306 (by decide) (by first | rfl | assumption) ?_
                          -- at 308: .iload 8
                          have hXl := e1.1 l hl
                          rw [show sR (gR σ l (some (N, fun _ => 0))) l = some (N, fun _ => 0) from if_pos rfl] at hXl
                          have key := l_rwr (X := X) (d := d + 5) (μ := μ3) (Q := PM μ1 (nI acc.1, gR σ l (some (N, fun k => nI (acc.2.getD k 0))))) (am := nI am) (cds := nI (N ^ N)) (lst := nI acc.1) (js := nI j) hl hn5 hn0 q3 q4 hc (fun b v8 μ4 s1 s2 s3 => ?_) N μ3 (Nat.le_refl _) (sP.rf _ μ3) (fun i hi1 hi2 => by omega) (fun q hq hql i hi => rfl)
                          · rw [List.take_of_length_le (by omega)] at key
                            exact key
                          · have hrow := e1.row (o := some (N, fun k => nI (acc.2.getD k 0))) (s1.wide (fun b hb => Or.inr hb)) hl ⟨by rw [(s1 100 (by omega)).1]; exact hXl.1, by omega, s2⟩ (fun q hq hql => ⟨by rw [(s1 100 (by omega)).1], s3 q hq hql⟩)
                            rw [gR_gR] at hrow
                            refine tr_iload dX8_order_343 rfl ?_
                            -- at 345: .ireturn
                            refine tr_iret dX8_order_345 (by first | exact trivial | rfl) ⟨rfl, hrow, hf.trans ((e2.fq (fun b hb => by omega)).trans (s1.fq (fun b hb => by omega)))⟩
                        · exact absurd g1 (nI_m9' (by omega))
                    · omega
                · omega
            · have em : mref σ j = some (-3, gF σ (amC σ j)) := by rw [mref_am h3, if_neg h4]
              refine tr_aload_n dX8_order_39 rfl ?_
              refine tr_iload_n dX8_order_40 rfl ?_
              -- at 41: .invokevirtual 81
              refine tr_Vi (As := [_]) dX8_order_41 fm_RX8_81 rfl rfl (by first | assumption | decide) (by first | assumption | rfl) (Nat.le_of_ble_eq_true rfl) (r_finds hlt h) (fun v μ1 ⟨e1, e2, e3⟩ => ?_)
              refine tr_iret dX8_order_44 (by first | exact trivial | rfl) (pm_e (by simp only [S_order, hr, hx, em]) e1 e2 e3)
          · have em : mref σ j = some (-4, σ) := by rw [mref, if_pos h3]
            refine tr_bipush (v := -4) dX8_order_26 (by decide) ?_
            exact tr_iret dX8_order_28 (by first | exact trivial | rfl) (pm_same h (by simp only [S_order, hr, hx, em]))
        · cases h2
end M15
