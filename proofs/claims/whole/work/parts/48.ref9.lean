-- ===== the reference: passes, amiss, soonest, unfit, fitting, kinds, marks =====
def anyM (s : List Nat) (v : Nat) : Nat → Bool
  | 0 => false
  | k + 1 => anyM s v k || decide (s.getD k 0 = v)
theorem anyM_t (s : List Nat) (v : Nat) : ∀ k, anyM s v k = true ↔ ∃ i, i < k ∧ s.getD i 0 = v
  | 0 => by simp [anyM]
  | k + 1 => by
    rw [anyM, Bool.or_eq_true, anyM_t s v k, decide_eq_true_iff]
    constructor
    · rintro (⟨i, h1, h2⟩ | h)
      · exact ⟨i, by omega, h2⟩
      · exact ⟨k, by omega, h⟩
    · rintro ⟨i, h1, h2⟩
      by_cases e : i = k
      · subst e; exact Or.inr h2
      · exact Or.inl ⟨i, by omega, h2⟩
theorem anyM_mem (s : List Nat) (v : Nat) : anyM s v s.length = decide (v ∈ s) := by
  rw [Bool.eq_iff_iff, anyM_t, decide_eq_true_iff, List.mem_iff_getElem?]
  constructor
  · rintro ⟨i, h1, h2⟩
    refine ⟨i, ?_⟩
    rw [List.getD_eq_getElem?_getD, List.getElem?_eq_getElem h1] at h2
    rw [List.getElem?_eq_getElem h1]
    simpa using h2
  · rintro ⟨i, h⟩
    have h1 := (List.getElem?_eq_some_iff.mp h).1
    exact ⟨i, h1, by rw [List.getD_eq_getElem?_getD, h]; rfl⟩
def insM (s : List Nat) (v : Nat) : List Nat := if v ∈ s then s else s ++ [v]
def NM (μ : am_M) (s : List Nat) : Prop := (∀ v ∈ s, v < 10000000) ∧ ∀ i, i < s.length → μ.1 114 i = nI (s.getD i 0)
theorem NM.lt {μ : am_M} {s : List Nat} (h : NM μ s) {i : Nat} (hi : i < s.length) : s.getD i 0 < 10000000 := by
  refine h.1 _ ?_
  rw [List.getD_eq_getElem?_getD, List.getElem?_eq_getElem hi]
  exact List.getElem_mem hi
theorem NM.ins {μ : am_M} {s : List Nat} {v : Nat} (h : NM μ s) (hv : v < 10000000) : NM (sI μ 114 (upd (μ.1 114) s.length (nI v))) (insM s v) := by
  unfold insM
  split
  · exact ⟨h.1, fun i hi => by rw [sI_same, pk_un (by omega)]; exact h.2 i hi⟩
  · refine ⟨fun w hw => ?_, fun i hi => ?_⟩
    · rcases List.mem_append.mp hw with hw | hw
      · exact h.1 w hw
      · rw [List.mem_singleton.mp hw]; exact hv
    · rw [sI_same]
      rw [List.length_append] at hi
      have hi : i < s.length + 1 := hi
      by_cases e : i = s.length
      · subst e; rw [pk_us]; simp [List.getD]
      · rw [pk_un e, h.2 i (by omega)]
        simp only [List.getD_eq_getElem?_getD]
        rw [List.getElem?_append_left (by omega)]
theorem insM_len (s : List Nat) (v : Nat) : (insM s v).length = s.length + bN (!decide (v ∈ s)) := by
  unfold insM
  by_cases h : v ∈ s
  · rw [if_pos h, decide_eq_true h]; rfl
  · rw [if_neg h, decide_eq_false h, List.length_append]; rfl
def amC (σ : SG) (j : Nat) : Nat := match sR σ j with
  | none => 1
  | some (n, f) => if n = 0 ∨ 5 < n then 5 else if withM n f (nI (10 ^ nowM σ 18 - 1)) = true then 0 else 3
def unC (σ : SG) (j : Nat) : Nat := match sR σ j with
  | none => 1
  | some (n, f) => if n = 0 ∨ 20 < n then 5 else if withM n f (nI 9) = true then 0 else 3
theorem mref_am {σ : SG} {j : Nat} (h : nowM σ 18 ≠ 0) : mref σ j = if amC σ j = 0 then none else some (-3, gF σ (amC σ j)) := by
  unfold mref amC
  rw [if_neg h]
  cases sR σ j with
  | none => rfl
  | some w =>
    obtain ⟨n, f⟩ := w
    dsimp only
    by_cases h1 : n = 0 ∨ 5 < n
    · simp [h1]
    · by_cases h2 : withM n f (nI (10 ^ nowM σ 18 - 1)) = true
      · simp [h1, h2]
      · simp [h1, h2]
theorem sref_un {σ : SG} {i j : Nat} (hi : i < nowM σ 18) (h7 : nowM σ 18 ≤ 7) (hj : j < 6) : sref σ (nI i) (nI j) = if unC σ j = 0 then none else some (-3, gF σ (unC σ j)) := by
  unfold sref unC
  rw [ixV_nI hi (by omega), ixV_nI hj (by omega)]
  dsimp only
  cases sR σ j with
  | none => rfl
  | some w =>
    obtain ⟨n, f⟩ := w
    dsimp only
    by_cases h1 : n = 0 ∨ 20 < n
    · simp [h1]
    · by_cases h2 : withM n f (nI 9) = true
      · simp [h1, h2]
      · simp [h1, h2]
theorem amC_lt (σ : SG) (j : Nat) : amC σ j < 6 := by
  unfold amC
  repeat' split
  all_goals omega
theorem unC_lt (σ : SG) (j : Nat) : unC σ j < 6 := by
  unfold unC
  repeat' split
  all_goals omega
theorem withM_s (n : Nat) (f : Nat → Int32) (m : Int32) : withM (n + 1) f m = (withM n f m && decide (nI 0 ≤ f n ∧ f n ≤ m)) := by
  rw [Bool.eq_iff_iff, Bool.and_eq_true, withM, withM, decide_eq_true_iff, decide_eq_true_iff, decide_eq_true_iff]
  constructor
  · intro h
    exact ⟨fun i hi => h i (by omega), h n (by omega)⟩
  · rintro ⟨h1, h2⟩ i hi
    by_cases e : i = n
    · subst e; exact h2
    · exact h1 i (by omega)
theorem bN_lt (b : Bool) : bN b < 2 ^ 31 := by unfold bN; split <;> omega
section M9
variable {X : Nat × (Nat → Int32)} {d : Nat} {μ : am_M} {σ : SG} {a b i j n p : Nat} {c : NF} {r x y z w : Int32} {f : Nat → Int32}
theorem l_rpasses {m0 : am_M} {P : Int32 × SG} : ∀ (m t : Nat) (c : NF) (s : List Nat) (g : Nat) (v5 v6 v7 : Value) (μ : am_M), t + m = 60 → v5.category = 1 → v6.category = 1 → v7.category = 1 → wfc c → MR μ 107 c → NM μ s → s.length ≤ t → g < 10000000 → MI μ σ → fq m0 μ → P = (nI (pasM m c (insM s (numM c (c 18))) (max g (numM c (c 18)))).1.length, gA σ (nI (pasM m c (insM s (numM c (c 18))) (max g (numM c (c 18)))).2)) → tw X (d + 4) kX8_passes (PM m0 P) 33 [.ref 99, .int (nI s.length), .int (nI g), .int (nI 1), .int (nI t), v5, v6, v7] [] μ
  | m, t, c, s, g, v5, v6, v7, μ, htm, c5, c6, c7, hw, hr, hn, hl, hg, hM, hf, hP => by
    have h7 := hw.1
    have hv := numM_31 hw h7
    have hfin : ∀ (k s' : Nat) (g' : Nat) (b : Int32) (v5 v6 v7 : Value) (μ' : am_M), P = (nI s', gA σ (nI g')) → MI μ' σ → fq m0 μ' → tw X (d + 4) kX8_passes (PM m0 P) 159 [.ref 99, .int (nI s'), .int (nI g'), .int b, .int (nI k), v5, v6, v7] [] μ' := by
      intro k s' g' b v5 v6 v7 μ' e hM' hf'
      refine tr_aload_n dX8_passes_159 rfl ?_
      refine tr_iload_n dX8_passes_160 rfl ?_
      refine tr_putI dX8_passes_161 fp_RX8_70 (by first | assumption | decide) (by first | assumption | rfl) rfl ?_
      refine tr_iload_n dX8_passes_164 rfl ?_
      -- at 165: .ireturn
      refine tr_iret dX8_passes_165 (by first | exact trivial | rfl) (pm_e e rfl (hM'.asked _) (hf'.trans (((sP.rf (fun b => b = 99) μ').put _ rfl).fq (fun b hb => by omega))))
    refine tr_iload dX8_passes_33 rfl ?_
    refine tr_bipush (v := nI 60) dX8_passes_35 (by decide) ?_
    -- at 37: .if_icmp .gt 122
    refine tr_gtN (tgt := 159) dX8_passes_37 (by decide) (by omega) (by omega) (fun h1 => ?_) (fun h1 => ?_)
    · omega
    · refine tr_iload_n dX8_passes_40 rfl ?_
      -- at 41: .ifCond .eq 118
      refine tr_if0N (tgt := 159) dX8_passes_41 (by decide) (by omega) (fun h2 => ?_) (fun h2 => ?_)
      · omega
      · refine tr_aload_n dX8_passes_44 rfl ?_
        refine tr_getR dX8_passes_45 fg_RX8_32 (by first | assumption | decide) (by first | assumption | rfl) rfl (by omega) ?_
        -- at 48: .invokestatic 167
        refine tr_Si (As := [_]) dX8_passes_48 fm_RX8_167 rfl rfl (Nat.le_of_ble_eq_true rfl) (r_shown isA_107 hr hw) (fun v μ1 ⟨e1, e2⟩ => ?_)
        subst μ1; subst v
        generalize hv0 : numM c (c 18) = v at *
        refine tr_istore_5 dX8_passes_51 (by decide) (by first | rfl | assumption) ?_
        refine tr_iconst (v := nI 0) dX8_passes_53 (by decide) ?_
        refine tr_istore_6 dX8_passes_54 (by decide) (by first | rfl | assumption) ?_
        refine tr_iconst (v := nI 0) dX8_passes_56 (by decide) ?_
        refine tr_istore_7 dX8_passes_57 (by decide) (by first | rfl | assumption) ?_
        -- at 59: .iload 7
        refine tw_for (n := s.length) (Lf := fun k => [.ref 99, .int (nI s.length), .int (nI g), .int (nI 1), .int (nI t), .int (nI v), .int (nI (bN (anyM s v k))), .int (nI k)]) (P := fun k μ1 => μ1 = μ) (fun k μ1 hk hP ih => ?_) (fun μ1 hP => ?_) 0 _ (by omega) rfl
        · subst hP
          have ih' := ih μ1 rfl
          rw [show anyM s v (k + 1) = (anyM s v k || decide (s.getD k 0 = v)) from rfl] at ih'
          have hk2 := hn.2 k hk
          have hk3 := hn.lt hk
          refine tr_iload dX8_passes_59 rfl ?_
          refine tr_iload_n dX8_passes_61 rfl ?_
          -- at 62: .if_icmp .ge 33
          refine tr_geN (tgt := 95) dX8_passes_62 (by decide) (by omega) (by omega) (fun h3 => ?_) (fun h3 => ?_)
          · omega
          · refine tr_iload dX8_passes_65 rfl ?_
            -- at 67: .ifCond .ne 15
            refine tr_ifb1 (tgt := 82) dX8_passes_67 (by decide) (fun h4 => ?_) (fun h4 => ?_)
            · rw [h4] at ih'
              refine tr_iconst (v := nI 1) dX8_passes_82 (by decide) ?_
              refine tr_goto (tgt := 87) dX8_passes_83 (by decide) ?_
              refine tr_istore_6 dX8_passes_87 (by decide) (by first | rfl | assumption) ?_
              first | with_reducible refine tr_iincN_7 dX8_passes_89 (by decide) rfl ?_ | with_reducible refine tr_iincN_7 dX8_passes_89 (by decide) (by assumption) ?_ | refine tr_iinc_7 dX8_passes_89 (by decide) (by first | rfl | assumption) ?_
              refine tr_goto (tgt := 59) dX8_passes_92 (by decide) ?_
              -- at 59: .iload 7
              exact ih'
            · rw [h4] at ih'
              refine tr_aload_n dX8_passes_70 rfl ?_
              refine tr_getR dX8_passes_71 fg_RX8_57 (by first | assumption | decide) (by first | assumption | rfl) rfl (by omega) ?_
              refine tr_iload dX8_passes_74 rfl ?_
              refine tr_iald dX8_passes_76 (by first | assumption | decide) (by first | assumption | rfl) rfl (by omega) (by omega) (by first | assumption | rfl) ?_
              refine tr_iload dX8_passes_77 rfl ?_
              -- at 79: .if_icmp .ne 7
              refine tr_neN (tgt := 86) dX8_passes_79 (by decide) (by omega) (by omega) (fun h5 => ?_) (fun h5 => ?_)
              · rw [decide_eq_false h5] at ih'
                refine tr_iconst (v := nI 0) dX8_passes_86 (by decide) ?_
                refine tr_istore_6 dX8_passes_87 (by decide) (by first | rfl | assumption) ?_
                first | with_reducible refine tr_iincN_7 dX8_passes_89 (by decide) rfl ?_ | with_reducible refine tr_iincN_7 dX8_passes_89 (by decide) (by assumption) ?_ | refine tr_iinc_7 dX8_passes_89 (by decide) (by first | rfl | assumption) ?_
                refine tr_goto (tgt := 59) dX8_passes_92 (by decide) ?_
                -- at 59: .iload 7
                exact ih'
              · rw [decide_eq_true h5] at ih'
                refine tr_iconst (v := nI 1) dX8_passes_82 (by decide) ?_
                refine tr_goto (tgt := 87) dX8_passes_83 (by decide) ?_
                refine tr_istore_6 dX8_passes_87 (by decide) (by first | rfl | assumption) ?_
                first | with_reducible refine tr_iincN_7 dX8_passes_89 (by decide) rfl ?_ | with_reducible refine tr_iincN_7 dX8_passes_89 (by decide) (by assumption) ?_ | refine tr_iinc_7 dX8_passes_89 (by decide) (by first | rfl | assumption) ?_
                refine tr_goto (tgt := 59) dX8_passes_92 (by decide) ?_
                -- at 59: .iload 7
                exact ih'
        · subst hP
          rw [anyM_mem]
          refine tr_iload dX8_passes_59 rfl ?_
          refine tr_iload_n dX8_passes_61 rfl ?_
          -- at 62: .if_icmp .ge 33
          refine tr_geN (tgt := 95) dX8_passes_62 (by decide) (by omega) (by omega) (fun h3 => ?_) (fun h3 => ?_)
          · refine tr_aload_n dX8_passes_95 rfl ?_
            refine tr_getR dX8_passes_96 fg_RX8_57 (by first | assumption | decide) (by first | assumption | rfl) rfl (by omega) ?_
            refine tr_iload_n dX8_passes_99 rfl ?_
            refine tr_iload dX8_passes_100 rfl ?_
            refine tr_iast dX8_passes_102 (by first | assumption | decide) (by first | assumption | rfl) rfl (by omega) (by omega) ?_
            -- at 103: .iload_n 1
            have hn2 := hn.ins hv
            have hM2 : MI (sI μ1 114 (upd (μ1.1 114) s.length (nI v))) σ := hM.scr ((sP.rf scrM μ1).put _ (by unfold scrM; omega))
            have hr2 : MR (sI μ1 114 (upd (μ1.1 114) s.length (nI v))) 107 c := hr.kept (by rw [sI_ne _ _ (by omega)])
            have hf2 : fq m0 (sI μ1 114 (upd (μ1.1 114) s.length (nI v))) := hf.trans (((sP.rf (fun b => b = 114) μ1).put _ rfl).fq (fun b hb => by omega))
            generalize sI μ1 114 (upd (μ1.1 114) s.length (nI v)) = μ2 at hn2 hM2 hr2 hf2 ⊢
            have hlen := insM_len s v
            have hrest : ∀ (w6 : Int32), tw X (d + 4) kX8_passes (PM m0 P) 116 [.ref 99, .int (nI (insM s v).length), .int (nI g), .int (nI 1), .int (nI t), .int (nI v), .int w6, .int (nI s.length)] [] μ2 := by
              intro w6
              have hrest2 : tw X (d + 4) kX8_passes (PM m0 P) 129 [.ref 99, .int (nI (insM s v).length), .int (nI (max g v)), .int (nI 1), .int (nI t), .int (nI v), .int w6, .int (nI s.length)] [] μ2 := by
                refine tr_aload_n dX8_passes_129 rfl ?_
                refine tr_getR dX8_passes_130 fg_RX8_32 (by first | assumption | decide) (by first | assumption | rfl) rfl (by omega) ?_
                -- at 133: .invokestatic 170
                refine tr_Si (As := [_]) dX8_passes_133 fm_RX8_170 rfl rfl (Nat.le_of_ble_eq_true rfl) (r_isTold isA_107 hr2 hw) (fun u μ3 ⟨e1, e2⟩ => ?_)
                subst μ3; subst u
                refine tr_ifb1 (tgt := 143) dX8_passes_136 (by decide) (fun h6 => ?_) (fun h6 => ?_)
                · refine tr_iconst (v := nI 0) dX8_passes_143 (by decide) ?_
                  refine tr_istore_n_3 dX8_passes_144 (by decide) (by first | rfl | assumption) ?_
                  refine tr_aload_n dX8_passes_145 rfl ?_
                  refine tr_getR dX8_passes_146 fg_RX8_32 (by first | assumption | decide) (by first | assumption | rfl) rfl (by omega) ?_
                  -- at 149: .invokestatic 153
                  refine tr_Si (As := [_]) dX8_passes_149 fm_RX8_153 rfl rfl (Nat.le_of_ble_eq_true rfl) (r_goes isA_107 hr2 hw) (fun u μ3 ⟨e1, e2, e3⟩ => ?_)
                  refine tr_pop dX8_passes_152 rfl ?_
                  first | with_reducible refine tr_iincN_4 dX8_passes_153 (by decide) rfl ?_ | with_reducible refine tr_iincN_4 dX8_passes_153 (by decide) (by assumption) ?_ | refine tr_iinc_4 dX8_passes_153 (by decide) (by first | rfl | assumption) ?_
                  refine tr_goto (tgt := 33) dX8_passes_156 (by decide) ?_
                  -- at 33: .iload 4
                  have eP : P = (nI (insM s v).length, gA σ (nI (max g v))) := by
                    rw [hP]
                    cases m with
                    | zero => rfl
                    | succ m => rw [pasM, if_pos h6]
                  refine tr_iload dX8_passes_33 rfl ?_
                  refine tr_bipush (v := nI 60) dX8_passes_35 (by decide) ?_
                  -- at 37: .if_icmp .gt 122
                  refine tr_gtN (tgt := 159) dX8_passes_37 (by decide) (by omega) (by omega) (fun h8 => ?_) (fun h8 => ?_)
                  · exact hfin (t + 1) _ _ _ _ _ _ μ3 eP (hM2.same107 e1) (hf2.trans (fq107 e1))
                  · refine tr_iload_n dX8_passes_40 rfl ?_
                    -- at 41: .ifCond .eq 118
                    refine tr_if0N (tgt := 159) dX8_passes_41 (by decide) (by omega) (fun h9 => ?_) (fun h9 => ?_)
                    · exact hfin (t + 1) _ _ _ _ _ _ μ3 eP (hM2.same107 e1) (hf2.trans (fq107 e1))
                    · exact absurd rfl h9
                · refine tr_iconst (v := nI 1) dX8_passes_139 (by decide) ?_
                  refine tr_goto (tgt := 144) dX8_passes_140 (by decide) ?_
                  refine tr_istore_n_3 dX8_passes_144 (by decide) (by first | rfl | assumption) ?_
                  refine tr_aload_n dX8_passes_145 rfl ?_
                  refine tr_getR dX8_passes_146 fg_RX8_32 (by first | assumption | decide) (by first | assumption | rfl) rfl (by omega) ?_
                  -- at 149: .invokestatic 153
                  refine tr_Si (As := [_]) dX8_passes_149 fm_RX8_153 rfl rfl (Nat.le_of_ble_eq_true rfl) (r_goes isA_107 hr2 hw) (fun u μ3 ⟨e1, e2, e3⟩ => ?_)
                  refine tr_pop dX8_passes_152 rfl ?_
                  first | with_reducible refine tr_iincN_4 dX8_passes_153 (by decide) rfl ?_ | with_reducible refine tr_iincN_4 dX8_passes_153 (by decide) (by assumption) ?_ | refine tr_iinc_4 dX8_passes_153 (by decide) (by first | rfl | assumption) ?_
                  refine tr_goto (tgt := 33) dX8_passes_156 (by decide) ?_
                  -- at 33: .iload 4
                  cases m with
                  | zero =>
                    have eP : P = (nI (insM s v).length, gA σ (nI (max g v))) := hP
                    refine tr_iload dX8_passes_33 rfl ?_
                    refine tr_bipush (v := nI 60) dX8_passes_35 (by decide) ?_
                    -- at 37: .if_icmp .gt 122
                    refine tr_gtN (tgt := 159) dX8_passes_37 (by decide) (by omega) (by omega) (fun h8 => ?_) (fun h8 => ?_)
                    · exact hfin (t + 1) _ _ _ _ _ _ μ3 eP (hM2.same107 e1) (hf2.trans (fq107 e1))
                    · omega
                  | succ m =>
                    rw [pasM, if_neg (by rw [h6]; decide), ← goC_keep hw (j := 18) (by omega) (by omega) (by omega)] at hP
                    exact l_rpasses m (t + 1) (goC c) (insM s v) (max g v) (.int (nI v)) (.int w6) (.int (nI s.length)) μ3 (by omega) rfl rfl rfl (goC_wf hw) e2 ⟨hn2.1, fun i hi => by rw [e1.1 114 (by decide)]; exact hn2.2 i hi⟩ (by have := (show bN (!decide (v ∈ s)) ≤ 1 by unfold bN; split <;> omega); omega) (by omega) (hM2.same107 e1) (hf2.trans (fq107 e1)) hP
              refine tr_iload dX8_passes_116 rfl ?_
              refine tr_iload_n dX8_passes_118 rfl ?_
              -- at 119: .if_icmp .le 8
              refine tr_leN (tgt := 127) dX8_passes_119 (by decide) (by omega) (by omega) (fun h5 => ?_) (fun h5 => ?_)
              · rw [Nat.max_eq_left h5] at hrest2
                refine tr_iload_n dX8_passes_127 rfl ?_
                refine tr_istore_n_2 dX8_passes_128 (by decide) (by first | rfl | assumption) ?_
                -- at 129: .aload_n 0
                exact hrest2
              · rw [Nat.max_eq_right (by omega)] at hrest2
                refine tr_iload dX8_passes_122 rfl ?_
                refine tr_goto (tgt := 128) dX8_passes_124 (by decide) ?_
                refine tr_istore_n_2 dX8_passes_128 (by decide) (by first | rfl | assumption) ?_
                -- at 129: .aload_n 0
                exact hrest2
            refine tr_iload_n dX8_passes_103 rfl ?_
            refine tr_iload dX8_passes_104 rfl ?_
            -- at 106: .ifCond .eq 7
            rw [hlen] at hrest
            refine tr_ifb0 (tgt := 113) dX8_passes_106 (by decide) (fun h4 => ?_) (fun h4 => ?_)
            · rw [h4] at hrest
              refine tr_iconst (v := nI 1) dX8_passes_113 (by decide) ?_
              first | with_reducible refine tr_iaddN dX8_passes_114 ?_ | refine tr_iadd dX8_passes_114 ?_
              refine tr_istore_n_1 dX8_passes_115 (by decide) (by first | rfl | assumption) ?_
              -- at 116: .iload 5
              exact hrest _
            · rw [h4] at hrest
              refine tr_iconst (v := nI 0) dX8_passes_109 (by decide) ?_
              refine tr_goto (tgt := 114) dX8_passes_110 (by decide) ?_
              first | with_reducible refine tr_iaddN dX8_passes_114 ?_ | refine tr_iadd dX8_passes_114 ?_
              refine tr_istore_n_1 dX8_passes_115 (by decide) (by first | rfl | assumption) ?_
              -- at 116: .iload 5
              exact hrest _
          · omega
  termination_by m => m
theorem r_passes (h : MI μ σ) (hW : WI σ) : cp X (d + 5) kX8_passes [.ref 99] μ (PM μ (S_passes σ)) := by
  have hw := hW.now
  have h7 := hw.1
  have hm := h.2.2.1
  have k18 := hm 18 (by omega)
  refine cp_of ok_X8_passes (L := [.ref 99, .float 0, .float 0, .float 0, .float 0, .float 0, .float 0, .float 0]) rfl ?_
  refine tr_aload_n dX8_passes_0 rfl ?_
  refine tr_getR dX8_passes_1 fg_RX8_26 (by first | assumption | decide) (by first | assumption | rfl) rfl (by omega) ?_
  refine tr_bipush (v := nI 18) dX8_passes_4 (by decide) ?_
  refine tr_iald dX8_passes_6 (by first | assumption | decide) (by first | assumption | rfl) rfl (by omega) (by omega) (by first | assumption | rfl) ?_
  -- at 7: .ifCond .ne 6
  refine tr_ifnN (tgt := 13) dX8_passes_7 (by decide) (by omega) (fun h3 => ?_) (fun h3 => ?_)
  · refine tr_aload_n dX8_passes_13 rfl ?_
    refine tr_getR dX8_passes_14 fg_RX8_26 (by first | assumption | decide) (by first | assumption | rfl) rfl (by omega) ?_
    refine tr_aload_n dX8_passes_17 rfl ?_
    refine tr_getR dX8_passes_18 fg_RX8_32 (by first | assumption | decide) (by first | assumption | rfl) rfl (by omega) ?_
    -- at 21: .invokestatic 163
    refine tr_Sv (As := [_, _]) dX8_passes_21 fm_RX8_163 rfl rfl (Nat.le_of_ble_eq_true rfl) (r_copies isA_105 isA_107 (by omega) hm) (fun μ1 ⟨e1, e2⟩ => ?_)
    refine tr_iconst (v := nI 0) dX8_passes_24 (by decide) ?_
    refine tr_istore_n_1 dX8_passes_25 (by decide) (by first | rfl | assumption) ?_
    refine tr_iconst (v := nI 0) dX8_passes_26 (by decide) ?_
    refine tr_istore_n_2 dX8_passes_27 (by decide) (by first | rfl | assumption) ?_
    refine tr_iconst (v := nI 1) dX8_passes_28 (by decide) ?_
    refine tr_istore_n_3 dX8_passes_29 (by decide) (by first | rfl | assumption) ?_
    refine tr_iconst (v := nI 0) dX8_passes_30 (by decide) ?_
    refine tr_istore_4 dX8_passes_31 (by decide) (by first | rfl | assumption) ?_
    -- at 33: .iload 4
    exact l_rpasses 60 0 (nowM σ) [] 0 (.float 0) (.float 0) (.float 0) μ1 (by omega) rfl rfl rfl hw e2 ⟨fun v hv => (by cases hv), fun i hi => absurd hi (Nat.not_lt_zero i)⟩ (by simp) (by omega) (h.same107 e1) (fq107 e1) (by rw [S_passes, if_neg h3, Nat.zero_max]; rfl)
  · refine tr_bipush (v := -4) dX8_passes_10 (by decide) ?_
    exact tr_iret dX8_passes_12 (by first | exact trivial | rfl) (pm_same h (by rw [S_passes, if_pos h3]))
theorem r_amiss (h : MI μ σ) (hW : WI σ) (hj : j < 6) : cp X (d + 2) kX8_amiss [.ref 99, .int (nI j)] μ (qi (fun v μ' => μ' = μ ∧ v = nI (amC σ j))) := by
  have hw := hW.now
  have h7 := hw.1
  have hm := h.2.2.1
  have k18 := hm 18 (by omega)
  have hX := h.1 j hj
  have r0 := hX.sz
  unfold amC
  refine cp_of ok_X8_amiss (L := [.ref 99, .int (nI j), .float 0, .float 0, .float 0]) rfl ?_
  refine tr_aload_n dX8_amiss_0 rfl ?_
  refine tr_getR dX8_amiss_1 fg_RX8_7 (by first | assumption | decide) (by first | assumption | rfl) rfl (by omega) ?_
  refine tr_iload_n dX8_amiss_4 rfl ?_
  refine tr_iald dX8_amiss_5 (by first | assumption | decide) (by first | assumption | rfl) rfl (by omega) (by omega) (by first | assumption | rfl) ?_
  -- at 6: .ifCond .ge 5
  cases ho : sR σ j with
  | none =>
    refine tr_if_ge (tgt := 11) dX8_amiss_6 (by decide) (fun h2 => ?_) (fun h2 => ?_)
    · exact absurd h2 (by decide)
    · refine tr_iconst (v := nI 1) dX8_amiss_9 (by decide) ?_
      -- at 10: .ireturn
      refine tr_iret dX8_amiss_10 (by first | exact trivial | rfl) ⟨rfl, rfl⟩
  | some w =>
    obtain ⟨n, f⟩ := w
    rw [ho] at hX
    have r1 := hX.1
    have r2 := hX.2.1
    dsimp only
    refine tr_if_ge (tgt := 11) dX8_amiss_6 (by decide) (fun h2 => ?_) (fun h2 => ?_)
    · refine tr_aload_n dX8_amiss_11 rfl ?_
      refine tr_getR dX8_amiss_12 fg_RX8_7 (by first | assumption | decide) (by first | assumption | rfl) rfl (by omega) ?_
      refine tr_iload_n dX8_amiss_15 rfl ?_
      refine tr_iald dX8_amiss_16 (by first | assumption | decide) (by first | assumption | rfl) rfl (by omega) (by omega) (by first | assumption | rfl) ?_
      refine tr_iconst (v := nI 1) dX8_amiss_17 (by decide) ?_
      refine tr_iconst (v := nI 5) dX8_amiss_18 (by decide) ?_
      -- at 19: .invokestatic 73
      refine tr_Si (As := [_, _, _]) dX8_amiss_19 fm_RX8_73 rfl rfl (Nat.le_of_ble_eq_true rfl) (r_in) (fun v μ1 ⟨e1, e2⟩ => ?_)
      subst μ1; subst v
      by_cases hn : n = 0 ∨ 5 < n
      · rw [if_pos hn]
        have eb : decide (nI 1 ≤ nI n ∧ nI n ≤ nI 5) = false := decide_eq_false (fun q => by
          have q1 := (nI_leI (by omega) (by omega)).mp q.1
          have q2 := (nI_leI (by omega) (by omega)).mp q.2
          omega)
        rw [eb]
        refine tr_ifb1 (tgt := 27) dX8_amiss_22 (by decide) (fun h3 => ?_) (fun h3 => ?_)
        · cases h3
        · refine tr_iconst (v := nI 5) dX8_amiss_25 (by decide) ?_
          -- at 26: .ireturn
          refine tr_iret dX8_amiss_26 (by first | exact trivial | rfl) ⟨rfl, rfl⟩
      · rw [if_neg hn]
        have eb : decide (nI 1 ≤ nI n ∧ nI n ≤ nI 5) = true := decide_eq_true ⟨(nI_leI (by omega) (by omega)).mpr (by omega), (nI_leI (by omega) (by omega)).mpr (by omega)⟩
        rw [eb]
        refine tr_ifb1 (tgt := 27) dX8_amiss_22 (by decide) (fun h3 => ?_) (fun h3 => ?_)
        · refine tr_iconst (v := nI 1) dX8_amiss_27 (by decide) ?_
          refine tr_istore_n_2 dX8_amiss_28 (by decide) (by first | rfl | assumption) ?_
          refine tr_iconst (v := nI 0) dX8_amiss_29 (by decide) ?_
          refine tr_istore_n_3 dX8_amiss_30 (by decide) (by first | rfl | assumption) ?_
          -- at 31: .iload_n 3
          refine tw_for (n := nowM σ 18) (Lf := fun k => [.ref 99, .int (nI j), .int (nI (10 ^ k)), .int (nI k), .float 0]) (P := fun k μ1 => μ1 = μ) (fun k μ1 hk hP ih => ?_) (fun μ1 hP => ?_) 0 _ (by omega) rfl
          · subst hP
            refine tr_iload_n dX8_amiss_31 rfl ?_
            refine tr_aload_n dX8_amiss_32 rfl ?_
            refine tr_getR dX8_amiss_33 fg_RX8_26 (by first | assumption | decide) (by first | assumption | rfl) rfl (by omega) ?_
            refine tr_bipush (v := nI 18) dX8_amiss_36 (by decide) ?_
            refine tr_iald dX8_amiss_38 (by first | assumption | decide) (by first | assumption | rfl) rfl (by omega) (by omega) (by first | assumption | rfl) ?_
            -- at 39: .if_icmp .ge 14
            refine tr_geN (tgt := 53) dX8_amiss_39 (by decide) (by omega) (by omega) (fun h4 => ?_) (fun h4 => ?_)
            · omega
            · refine tr_iload_n dX8_amiss_42 rfl ?_
              refine tr_bipush (v := nI 10) dX8_amiss_43 (by decide) ?_
              first | with_reducible refine tr_imulN dX8_amiss_45 ?_ | refine tr_imul dX8_amiss_45 ?_
              refine tr_istore_n_2 dX8_amiss_46 (by decide) (by first | rfl | assumption) ?_
              first | with_reducible refine tr_iincN_3 dX8_amiss_47 (by decide) rfl ?_ | with_reducible refine tr_iincN_3 dX8_amiss_47 (by decide) (by assumption) ?_ | refine tr_iinc_3 dX8_amiss_47 (by decide) (by first | rfl | assumption) ?_
              refine tr_goto (tgt := 31) dX8_amiss_50 (by decide) ?_
              -- at 31: .iload_n 3
              exact ih _ rfl
          · subst hP
            have ht := ten_le h7
            have ht0 : 0 < 10 ^ nowM σ 18 := Nat.pow_pos (by omega)
            generalize 10 ^ nowM σ 18 = T at ht ht0 ⊢
            refine tr_iload_n dX8_amiss_31 rfl ?_
            refine tr_aload_n dX8_amiss_32 rfl ?_
            refine tr_getR dX8_amiss_33 fg_RX8_26 (by first | assumption | decide) (by first | assumption | rfl) rfl (by omega) ?_
            refine tr_bipush (v := nI 18) dX8_amiss_36 (by decide) ?_
            refine tr_iald dX8_amiss_38 (by first | assumption | decide) (by first | assumption | rfl) rfl (by omega) (by omega) (by first | assumption | rfl) ?_
            -- at 39: .if_icmp .ge 14
            refine tr_geN (tgt := 53) dX8_amiss_39 (by decide) (by omega) (by omega) (fun h4 => ?_) (fun h4 => ?_)
            · refine tr_iconst (v := nI 1) dX8_amiss_53 (by decide) ?_
              refine tr_istore_n_3 dX8_amiss_54 (by decide) (by first | rfl | assumption) ?_
              refine tr_iconst (v := nI 0) dX8_amiss_55 (by decide) ?_
              refine tr_istore_4 dX8_amiss_56 (by decide) (by first | rfl | assumption) ?_
              -- at 58: .iload 4
              refine tw_for (n := n) (Lf := fun k => [.ref 99, .int (nI j), .int (nI T), .int (nI (bN (withM k f (nI (T - 1))))), .int (nI k)]) (P := fun k μ2 => μ2 = μ1) (fun k μ2 hk hP ih => ?_) (fun μ2 hP => ?_) 0 _ (by omega) rfl
              · subst hP
                have ih' := ih μ2 rfl
                rw [withM_s] at ih'
                have r3 := hX.2.2 k hk
                refine tr_iload dX8_amiss_58 rfl ?_
                refine tr_aload_n dX8_amiss_60 rfl ?_
                refine tr_getR dX8_amiss_61 fg_RX8_7 (by first | assumption | decide) (by first | assumption | rfl) rfl (by omega) ?_
                refine tr_iload_n dX8_amiss_64 rfl ?_
                refine tr_iald dX8_amiss_65 (by first | assumption | decide) (by first | assumption | rfl) rfl (by omega) (by omega) (by first | assumption | rfl) ?_
                -- at 66: .if_icmp .ge 41
                refine tr_geN (tgt := 107) dX8_amiss_66 (by decide) (by omega) (by omega) (fun h5 => ?_) (fun h5 => ?_)
                · omega
                · refine tr_iload_n dX8_amiss_69 rfl ?_
                  -- at 70: .ifCond .eq 29
                  refine tr_ifb0 (tgt := 99) dX8_amiss_70 (by decide) (fun h6 => ?_) (fun h6 => ?_)
                  · rw [h6] at ih'
                    refine tr_iconst (v := nI 0) dX8_amiss_99 (by decide) ?_
                    refine tr_istore_n_3 dX8_amiss_100 (by decide) (by first | rfl | assumption) ?_
                    first | with_reducible refine tr_iincN_4 dX8_amiss_101 (by decide) rfl ?_ | with_reducible refine tr_iincN_4 dX8_amiss_101 (by decide) (by assumption) ?_ | refine tr_iinc_4 dX8_amiss_101 (by decide) (by first | rfl | assumption) ?_
                    refine tr_goto (tgt := 58) dX8_amiss_104 (by decide) ?_
                    -- at 58: .iload 4
                    exact ih'
                  · rw [h6, Bool.true_and] at ih'
                    refine tr_aload_n dX8_amiss_73 rfl ?_
                    refine tr_getR dX8_amiss_74 fg_RX8_13 (by first | assumption | decide) (by first | assumption | rfl) rfl (by omega) ?_
                    refine tr_bipush (v := nI 40) dX8_amiss_77 (by decide) ?_
                    refine tr_iload_n dX8_amiss_79 rfl ?_
                    first | with_reducible refine tr_imulN dX8_amiss_80 ?_ | refine tr_imul dX8_amiss_80 ?_
                    refine tr_iload dX8_amiss_81 rfl ?_
                    first | with_reducible refine tr_iaddN dX8_amiss_83 ?_ | refine tr_iadd dX8_amiss_83 ?_
                    refine tr_iald dX8_amiss_84 (by first | assumption | decide) (by first | assumption | rfl) rfl (by omega) (by omega) (by first | assumption | rfl) ?_
                    refine tr_iconst (v := nI 0) dX8_amiss_85 (by decide) ?_
                    refine tr_iload_n dX8_amiss_86 rfl ?_
                    refine tr_iconst (v := nI 1) dX8_amiss_87 (by decide) ?_
                    first | with_reducible refine tr_isubN dX8_amiss_88 (by omega) ?_ | refine tr_isub dX8_amiss_88 ?_
                    -- at 89: .invokestatic 73
                    refine tr_Si (As := [_, _, _]) dX8_amiss_89 fm_RX8_73 rfl rfl (Nat.le_of_ble_eq_true rfl) (r_in) (fun v μ3 ⟨e1, e2⟩ => ?_)
                    subst μ3; subst v
                    refine tr_ifb0 (tgt := 99) dX8_amiss_92 (by decide) (fun h8 => ?_) (fun h8 => ?_)
                    · rw [h8] at ih'
                      refine tr_iconst (v := nI 0) dX8_amiss_99 (by decide) ?_
                      refine tr_istore_n_3 dX8_amiss_100 (by decide) (by first | rfl | assumption) ?_
                      first | with_reducible refine tr_iincN_4 dX8_amiss_101 (by decide) rfl ?_ | with_reducible refine tr_iincN_4 dX8_amiss_101 (by decide) (by assumption) ?_ | refine tr_iinc_4 dX8_amiss_101 (by decide) (by first | rfl | assumption) ?_
                      refine tr_goto (tgt := 58) dX8_amiss_104 (by decide) ?_
                      -- at 58: .iload 4
                      exact ih'
                    · rw [h8] at ih'
                      refine tr_iconst (v := nI 1) dX8_amiss_95 (by decide) ?_
                      refine tr_goto (tgt := 100) dX8_amiss_96 (by decide) ?_
                      refine tr_istore_n_3 dX8_amiss_100 (by decide) (by first | rfl | assumption) ?_
                      first | with_reducible refine tr_iincN_4 dX8_amiss_101 (by decide) rfl ?_ | with_reducible refine tr_iincN_4 dX8_amiss_101 (by decide) (by assumption) ?_ | refine tr_iinc_4 dX8_amiss_101 (by decide) (by first | rfl | assumption) ?_
                      refine tr_goto (tgt := 58) dX8_amiss_104 (by decide) ?_
                      -- at 58: .iload 4
                      exact ih'
              · subst hP
                refine tr_iload dX8_amiss_58 rfl ?_
                refine tr_aload_n dX8_amiss_60 rfl ?_
                refine tr_getR dX8_amiss_61 fg_RX8_7 (by first | assumption | decide) (by first | assumption | rfl) rfl (by omega) ?_
                refine tr_iload_n dX8_amiss_64 rfl ?_
                refine tr_iald dX8_amiss_65 (by first | assumption | decide) (by first | assumption | rfl) rfl (by omega) (by omega) (by first | assumption | rfl) ?_
                -- at 66: .if_icmp .ge 41
                refine tr_geN (tgt := 107) dX8_amiss_66 (by decide) (by omega) (by omega) (fun h5 => ?_) (fun h5 => ?_)
                · refine tr_iload_n dX8_amiss_107 rfl ?_
                  -- at 108: .ifCond .eq 7
                  refine tr_ifb0 (tgt := 115) dX8_amiss_108 (by decide) (fun h6 => ?_) (fun h6 => ?_)
                  · rw [h6]
                    refine tr_iconst (v := nI 3) dX8_amiss_115 (by decide) ?_
                    -- at 116: .ireturn
                    refine tr_iret dX8_amiss_116 (by first | exact trivial | rfl) ⟨rfl, rfl⟩
                  · rw [h6]
                    refine tr_iconst (v := nI 0) dX8_amiss_111 (by decide) ?_
                    refine tr_goto (tgt := 116) dX8_amiss_112 (by decide) ?_
                    -- at 116: .ireturn
                    refine tr_iret dX8_amiss_116 (by first | exact trivial | rfl) ⟨rfl, rfl⟩
                · omega
            · omega
        · cases h3
    · exact absurd (nI_pos' (show n < 2 ^ 31 by omega)) h2
theorem r_unfit (h : MI μ σ) (hj : j < 6) : cp X (d + 2) kX8_unfit [.ref 99, .int (nI j)] μ (qi (fun v μ' => μ' = μ ∧ v = nI (unC σ j))) := by
  have hX := h.1 j hj
  have r0 := hX.sz
  unfold unC
  refine cp_of ok_X8_unfit (L := [.ref 99, .int (nI j), .float 0, .float 0]) rfl ?_
  refine tr_aload_n dX8_unfit_0 rfl ?_
  refine tr_getR dX8_unfit_1 fg_RX8_7 (by first | assumption | decide) (by first | assumption | rfl) rfl (by omega) ?_
  refine tr_iload_n dX8_unfit_4 rfl ?_
  refine tr_iald dX8_unfit_5 (by first | assumption | decide) (by first | assumption | rfl) rfl (by omega) (by omega) (by first | assumption | rfl) ?_
  -- at 6: .ifCond .ge 5
  cases ho : sR σ j with
  | none =>
    refine tr_if_ge (tgt := 11) dX8_unfit_6 (by decide) (fun h2 => ?_) (fun h2 => ?_)
    · exact absurd h2 (by decide)
    · refine tr_iconst (v := nI 1) dX8_unfit_9 (by decide) ?_
      -- at 10: .ireturn
      refine tr_iret dX8_unfit_10 (by first | exact trivial | rfl) ⟨rfl, rfl⟩
  | some w =>
    obtain ⟨n, f⟩ := w
    rw [ho] at hX
    have r1 := hX.1
    have r2 := hX.2.1
    dsimp only
    refine tr_if_ge (tgt := 11) dX8_unfit_6 (by decide) (fun h2 => ?_) (fun h2 => ?_)
    · refine tr_aload_n dX8_unfit_11 rfl ?_
      refine tr_getR dX8_unfit_12 fg_RX8_7 (by first | assumption | decide) (by first | assumption | rfl) rfl (by omega) ?_
      refine tr_iload_n dX8_unfit_15 rfl ?_
      refine tr_iald dX8_unfit_16 (by first | assumption | decide) (by first | assumption | rfl) rfl (by omega) (by omega) (by first | assumption | rfl) ?_
      refine tr_iconst (v := nI 1) dX8_unfit_17 (by decide) ?_
      refine tr_bipush (v := nI 20) dX8_unfit_18 (by decide) ?_
      -- at 20: .invokestatic 73
      refine tr_Si (As := [_, _, _]) dX8_unfit_20 fm_RX8_73 rfl rfl (Nat.le_of_ble_eq_true rfl) (r_in) (fun v μ1 ⟨e1, e2⟩ => ?_)
      subst μ1; subst v
      by_cases hn : n = 0 ∨ 20 < n
      · rw [if_pos hn]
        have eb : decide (nI 1 ≤ nI n ∧ nI n ≤ nI 20) = false := decide_eq_false (fun q => by
          have q1 := (nI_leI (by omega) (by omega)).mp q.1
          have q2 := (nI_leI (by omega) (by omega)).mp q.2
          omega)
        rw [eb]
        refine tr_ifb1 (tgt := 28) dX8_unfit_23 (by decide) (fun h3 => ?_) (fun h3 => ?_)
        · cases h3
        · refine tr_iconst (v := nI 5) dX8_unfit_26 (by decide) ?_
          -- at 27: .ireturn
          refine tr_iret dX8_unfit_27 (by first | exact trivial | rfl) ⟨rfl, rfl⟩
      · rw [if_neg hn]
        have eb : decide (nI 1 ≤ nI n ∧ nI n ≤ nI 20) = true := decide_eq_true ⟨(nI_leI (by omega) (by omega)).mpr (by omega), (nI_leI (by omega) (by omega)).mpr (by omega)⟩
        rw [eb]
        refine tr_ifb1 (tgt := 28) dX8_unfit_23 (by decide) (fun h3 => ?_) (fun h3 => ?_)
        · refine tr_iconst (v := nI 1) dX8_unfit_28 (by decide) ?_
          refine tr_istore_n_2 dX8_unfit_29 (by decide) (by first | rfl | assumption) ?_
          refine tr_iconst (v := nI 0) dX8_unfit_30 (by decide) ?_
          refine tr_istore_n_3 dX8_unfit_31 (by decide) (by first | rfl | assumption) ?_
          -- at 32: .iload_n 3
          refine tw_for (n := n) (Lf := fun k => [.ref 99, .int (nI j), .int (nI (bN (withM k f (nI 9)))), .int (nI k)]) (P := fun k μ2 => μ2 = μ) (fun k μ2 hk hP ih => ?_) (fun μ2 hP => ?_) 0 _ (by omega) rfl
          · subst hP
            have ih' := ih μ2 rfl
            rw [withM_s] at ih'
            have r3 := hX.2.2 k hk
            refine tr_iload_n dX8_unfit_32 rfl ?_
            refine tr_aload_n dX8_unfit_33 rfl ?_
            refine tr_getR dX8_unfit_34 fg_RX8_7 (by first | assumption | decide) (by first | assumption | rfl) rfl (by omega) ?_
            refine tr_iload_n dX8_unfit_37 rfl ?_
            refine tr_iald dX8_unfit_38 (by first | assumption | decide) (by first | assumption | rfl) rfl (by omega) (by omega) (by first | assumption | rfl) ?_
            -- at 39: .if_icmp .ge 39
            refine tr_geN (tgt := 78) dX8_unfit_39 (by decide) (by omega) (by omega) (fun h5 => ?_) (fun h5 => ?_)
            · omega
            · refine tr_iload_n dX8_unfit_42 rfl ?_
              -- at 43: .ifCond .eq 27
              refine tr_ifb0 (tgt := 70) dX8_unfit_43 (by decide) (fun h6 => ?_) (fun h6 => ?_)
              · rw [h6] at ih'
                refine tr_iconst (v := nI 0) dX8_unfit_70 (by decide) ?_
                refine tr_istore_n_2 dX8_unfit_71 (by decide) (by first | rfl | assumption) ?_
                first | with_reducible refine tr_iincN_3 dX8_unfit_72 (by decide) rfl ?_ | with_reducible refine tr_iincN_3 dX8_unfit_72 (by decide) (by assumption) ?_ | refine tr_iinc_3 dX8_unfit_72 (by decide) (by first | rfl | assumption) ?_
                refine tr_goto (tgt := 32) dX8_unfit_75 (by decide) ?_
                -- at 32: .iload_n 3
                exact ih'
              · rw [h6, Bool.true_and] at ih'
                refine tr_aload_n dX8_unfit_46 rfl ?_
                refine tr_getR dX8_unfit_47 fg_RX8_13 (by first | assumption | decide) (by first | assumption | rfl) rfl (by omega) ?_
                refine tr_bipush (v := nI 40) dX8_unfit_50 (by decide) ?_
                refine tr_iload_n dX8_unfit_52 rfl ?_
                first | with_reducible refine tr_imulN dX8_unfit_53 ?_ | refine tr_imul dX8_unfit_53 ?_
                refine tr_iload_n dX8_unfit_54 rfl ?_
                first | with_reducible refine tr_iaddN dX8_unfit_55 ?_ | refine tr_iadd dX8_unfit_55 ?_
                refine tr_iald dX8_unfit_56 (by first | assumption | decide) (by first | assumption | rfl) rfl (by omega) (by omega) (by first | assumption | rfl) ?_
                refine tr_iconst (v := nI 0) dX8_unfit_57 (by decide) ?_
                refine tr_bipush (v := nI 9) dX8_unfit_58 (by decide) ?_
                -- at 60: .invokestatic 73
                refine tr_Si (As := [_, _, _]) dX8_unfit_60 fm_RX8_73 rfl rfl (Nat.le_of_ble_eq_true rfl) (r_in) (fun v μ3 ⟨e1, e2⟩ => ?_)
                subst μ3; subst v
                refine tr_ifb0 (tgt := 70) dX8_unfit_63 (by decide) (fun h8 => ?_) (fun h8 => ?_)
                · rw [h8] at ih'
                  refine tr_iconst (v := nI 0) dX8_unfit_70 (by decide) ?_
                  refine tr_istore_n_2 dX8_unfit_71 (by decide) (by first | rfl | assumption) ?_
                  first | with_reducible refine tr_iincN_3 dX8_unfit_72 (by decide) rfl ?_ | with_reducible refine tr_iincN_3 dX8_unfit_72 (by decide) (by assumption) ?_ | refine tr_iinc_3 dX8_unfit_72 (by decide) (by first | rfl | assumption) ?_
                  refine tr_goto (tgt := 32) dX8_unfit_75 (by decide) ?_
                  -- at 32: .iload_n 3
                  exact ih'
                · rw [h8] at ih'
                  refine tr_iconst (v := nI 1) dX8_unfit_66 (by decide) ?_
                  refine tr_goto (tgt := 71) dX8_unfit_67 (by decide) ?_
                  refine tr_istore_n_2 dX8_unfit_71 (by decide) (by first | rfl | assumption) ?_
                  first | with_reducible refine tr_iincN_3 dX8_unfit_72 (by decide) rfl ?_ | with_reducible refine tr_iincN_3 dX8_unfit_72 (by decide) (by assumption) ?_ | refine tr_iinc_3 dX8_unfit_72 (by decide) (by first | rfl | assumption) ?_
                  refine tr_goto (tgt := 32) dX8_unfit_75 (by decide) ?_
                  -- at 32: .iload_n 3
                  exact ih'
          · subst hP
            refine tr_iload_n dX8_unfit_32 rfl ?_
            refine tr_aload_n dX8_unfit_33 rfl ?_
            refine tr_getR dX8_unfit_34 fg_RX8_7 (by first | assumption | decide) (by first | assumption | rfl) rfl (by omega) ?_
            refine tr_iload_n dX8_unfit_37 rfl ?_
            refine tr_iald dX8_unfit_38 (by first | assumption | decide) (by first | assumption | rfl) rfl (by omega) (by omega) (by first | assumption | rfl) ?_
            -- at 39: .if_icmp .ge 39
            refine tr_geN (tgt := 78) dX8_unfit_39 (by decide) (by omega) (by omega) (fun h5 => ?_) (fun h5 => ?_)
            · refine tr_iload_n dX8_unfit_78 rfl ?_
              -- at 79: .ifCond .eq 7
              refine tr_ifb0 (tgt := 86) dX8_unfit_79 (by decide) (fun h6 => ?_) (fun h6 => ?_)
              · rw [h6]
                refine tr_iconst (v := nI 3) dX8_unfit_86 (by decide) ?_
                -- at 87: .ireturn
                refine tr_iret dX8_unfit_87 (by first | exact trivial | rfl) ⟨rfl, rfl⟩
              · rw [h6]
                refine tr_iconst (v := nI 0) dX8_unfit_82 (by decide) ?_
                refine tr_goto (tgt := 87) dX8_unfit_83 (by decide) ?_
                -- at 87: .ireturn
                refine tr_iret dX8_unfit_87 (by first | exact trivial | rfl) ⟨rfl, rfl⟩
            · omega
        · cases h3
    · exact absurd (nI_pos' (show n < 2 ^ 31 by omega)) h2
end M9
