-- ===== what the calls leave of the state is well bounded =====
def KP (σ σ' : SG) : Prop := sS σ' = sS σ ∧ sL σ' = sL σ ∧ sK σ' = sK σ
theorem WI.kp {σ σ' : SG} (h : WI σ) (e : KP σ σ') : WI σ' := by
  obtain ⟨e1, e2, e3⟩ := e
  unfold WI
  rw [e1, e2, e3]
  exact h
theorem KP.rf (σ : SG) : KP σ σ := ⟨rfl, rfl, rfl⟩
section KW
variable {σ : SG} {x y z w v : Int32}
theorem k_row : KP σ (S_row σ x y).2 := by unfold S_row; repeat' split
                                           all_goals exact ⟨rfl, rfl, rfl⟩
theorem k_lay : KP σ (S_lay σ x y z).2 := by unfold S_lay; repeat' split
                                             all_goals exact ⟨rfl, rfl, rfl⟩
theorem k_at : KP σ (S_at σ x y).2 := by unfold S_at; repeat' split
                                         all_goals exact ⟨rfl, rfl, rfl⟩
theorem k_tear : KP σ (S_tear σ x).2 := by unfold S_tear; repeat' split
                                           all_goals exact ⟨rfl, rfl, rfl⟩
theorem k_copy : KP σ (S_copy σ x y z w v).2 := by unfold S_copy; repeat' split
                                                   all_goals exact ⟨rfl, rfl, rfl⟩
theorem k_mean : KP σ (S_mean σ x).2 := by unfold S_mean; repeat' split
                                           all_goals exact ⟨rfl, rfl, rfl⟩
theorem k_text : KP σ (S_text σ x y).2 := by unfold S_text; repeat' split
                                             all_goals exact ⟨rfl, rfl, rfl⟩
theorem k_put : KP σ (S_put σ x y z).2 := by unfold S_put; repeat' split
                                             all_goals exact ⟨rfl, rfl, rfl⟩
theorem k_fault : KP σ (S_fault σ x).2 := by unfold S_fault; repeat' split
                                             all_goals exact ⟨rfl, rfl, rfl⟩
theorem k_drum : KP σ (S_drum σ x y).2 := by unfold S_drum; repeat' split
                                             all_goals exact ⟨rfl, rfl, rfl⟩
theorem k_mark : KP σ (S_mark σ x y).2 := by unfold S_mark; repeat' split
                                             all_goals exact ⟨rfl, rfl, rfl⟩
theorem k_later : KP σ (S_later σ x).2 := by unfold S_later; repeat' split
                                             all_goals exact ⟨rfl, rfl, rfl⟩
theorem k_ends : KP σ (S_ends σ).2 := by unfold S_ends; repeat' split
                                         all_goals exact ⟨rfl, rfl, rfl⟩
theorem k_least : KP σ (S_least σ).2 := by unfold S_least; repeat' split
                                           all_goals exact ⟨rfl, rfl, rfl⟩
theorem k_passes : KP σ (S_passes σ).2 := by unfold S_passes; repeat' split
                                             all_goals exact ⟨rfl, rfl, rfl⟩
theorem k_duel : KP σ (S_duel σ x).2 := by unfold S_duel; repeat' split
                                           all_goals exact ⟨rfl, rfl, rfl⟩
theorem k_odds : KP σ (S_odds σ x y z).2 := by unfold S_odds; repeat' split
                                               all_goals exact ⟨rfl, rfl, rfl⟩
theorem k_mid : KP σ (S_mid σ x y).2 := by unfold S_mid; repeat' split
                                           all_goals exact ⟨rfl, rfl, rfl⟩
theorem k_count : KP σ (S_count σ x).2 := by unfold S_count; repeat' split
                                             all_goals exact ⟨rfl, rfl, rfl⟩
theorem k_findings : KP σ (S_findings σ x).2 := by unfold S_findings; repeat' split
                                                   all_goals exact ⟨rfl, rfl, rfl⟩
theorem k_mref {j : Nat} {p : Int32 × SG} (h : mref σ j = some p) : KP σ p.2 := by
  unfold mref at h
  repeat' split at h
  all_goals first | (cases h; done) | (cases h; exact ⟨rfl, rfl, rfl⟩)
theorem k_sref {p : Int32 × SG} (h : sref σ x y = some p) : KP σ p.2 := by
  unfold sref at h
  repeat' split at h
  all_goals first | (cases h; done) | (cases h; exact ⟨rfl, rfl, rfl⟩)
theorem k_soonest : KP σ (S_soonest σ x).2 := by
  unfold S_soonest
  repeat' split
  all_goals first | exact ⟨rfl, rfl, rfl⟩ | exact k_mref (by assumption)
theorem k_order : KP σ (S_order σ x y).2 := by
  unfold S_order
  repeat' split
  all_goals first | exact ⟨rfl, rfl, rfl⟩ | exact k_mref (by assumption)
theorem k_kinds : KP σ (S_kinds σ x y).2 := by
  unfold S_kinds
  repeat' split
  all_goals first | exact ⟨rfl, rfl, rfl⟩ | exact k_sref (by assumption)
theorem k_marks : KP σ (S_marks σ x y).2 := by
  unfold S_marks
  repeat' split
  all_goals first | exact ⟨rfl, rfl, rfl⟩ | exact k_sref (by assumption)
theorem k_test : KP σ (S_test σ x y).2 := by
  unfold S_test
  cases hs : sref σ x y with
  | some p => exact k_sref hs
  | none =>
    dsimp only
    cases sR σ y.toNatClampNeg with
    | none => exact ⟨rfl, rfl, rfl⟩
    | some w =>
      obtain ⟨n, f⟩ := w
      dsimp only
      generalize fitM 19 (nowM σ) x.toNatClampNeg n f 6 = bb
      generalize tsM bb (nowM σ) x.toNatClampNeg 20 = zz
      split
      · exact ⟨rfl, rfl, rfl⟩
      · exact ⟨rfl, rfl, rfl⟩
end KW
theorem rdL_1 (n : Nat) (f : Nat → Int32) : ∀ (m at_ : Nat) (c : NF), (rdL n f m at_ c).2 1 = c 1
  | 0, _, _ => rfl
  | m + 1, at_, c => by
    unfold rdL
    split
    · split
      · rfl
      · split
        · rfl
        · split
          · rfl
          · split
            · rfl
            · rw [rdL_1 n f m]; exact addC_lo _ _ _ _ (by omega)
    · split <;> rfl
theorem rdT_1 (n : Nat) (f : Nat → Int32) : (rdT n f).2 1 = 0 := by
  unfold rdT
  split
  · rw [rdL_1]; exact nu_n _ _ (by omega)
  · rfl
theorem wi_board {σ : SG} {x : Int32} (h : WI σ) : WI (S_board σ x).2 := by
  unfold S_board
  repeat' split
  all_goals first | exact h | exact h.kp ⟨rfl, rfl, rfl⟩ | skip
  exact ⟨rdT_wf _ _, rdT_1 _ _, ⟨Nat.zero_le 40, fun dd hd => (by cases hd)⟩, fun k l e => (by cases e), fun _ => ⟨rfl, fun _ => rfl⟩⟩
theorem wi_tick {σ : SG} (h : WI σ) : WI (S_tick σ).2 := by
  unfold S_tick
  split
  · exact h
  · split
    · exact h
    · exact (h.app (by omega) ⟨by omega, by omega, by omega, by omega⟩ (by omega)).1
theorem wi_aim {σ : SG} {x y : Int32} (h : WI σ) : WI (S_aim σ x y).2 := by
  have h7 := h.now.1
  unfold S_aim
  split
  · rename_i j v e1 e2
    obtain ⟨_, hj⟩ := ixV_some (by omega) e1
    obtain ⟨_, hv⟩ := ixV_some (by omega) e2
    split
    · exact h
    · split
      · exact h
      · exact (h.app (by omega) ⟨by omega, by omega, by omega, by omega⟩ (by omega)).1
  · exact h
theorem wi_power {σ : SG} {x : Int32} (h : WI σ) : WI (S_power σ x).2 := by
  unfold S_power
  split
  · rename_i v e1
    obtain ⟨_, hv⟩ := ixV_some (by omega) e1
    split
    · exact h
    · split
      · exact h
      · split
        · exact h
        · exact (h.app (by omega) ⟨by omega, by omega, by omega, by omega⟩ (by omega)).1
  · exact h
theorem wi_jam {σ : SG} {x : Int32} (h : WI σ) : WI (S_jam σ x).2 := by
  have h7 := h.now.1
  unfold S_jam
  split
  · rename_i j e1
    obtain ⟨_, hj⟩ := ixV_some (by omega) e1
    split
    · exact h
    · exact (h.app (by omega) ⟨by omega, by omega, by omega, by omega⟩ (by omega)).1
  · exact h
theorem wi_undo {σ : SG} {x : Int32} (h : WI σ) : WI (S_undo σ x).2 := by
  unfold S_undo
  split
  · rename_i q e1
    obtain ⟨h1, h2, h3, h4, h5⟩ := h
    refine ⟨h1, h2, ⟨?_, fun dd hd => h3.2 dd (List.mem_of_mem_take hd)⟩, h4, fun e => ⟨?_, (h5 e).2⟩⟩
    · show ((sL σ).take q).length ≤ 40
      rw [List.length_take]
      have := h3.1
      omega
    · show (sL σ).take q = []
      rw [(h5 e).1]
      exact List.take_nil
  · exact h
theorem wi_keep {σ : SG} {x : Int32} (h : WI σ) : WI (S_keep σ x).2 := by
  have e18 := h.n18
  unfold S_keep
  split
  · rename_i q e1
    split
    · exact h
    · rename_i h0
      obtain ⟨h1, h2, h3, h4, h5⟩ := h
      refine ⟨h1, h2, h3, fun k l e => ?_, fun e => absurd (e18.trans e) h0⟩
      have e' : (if k = q then some (sL σ) else sK σ k) = some l := e
      split at e'
      · cases e'; exact h3
      · exact h4 k l e'
  · exact h
theorem wi_on {σ : SG} {x : Int32} (h : WI σ) : WI (S_on σ x).2 := by
  unfold S_on
  split
  · rename_i q e1
    split
    · exact h.kp ⟨rfl, rfl, rfl⟩
    · rename_i l e2
      obtain ⟨h1, h2, h3, h4, h5⟩ := h
      refine ⟨h1, h2, h4 q l e2, h4, fun e => ?_⟩
      have := (h5 e).2 q
      rw [e2] at this
      cases this
  · exact h
theorem lotL_wi : ∀ (m x : Nat) (σ : SG), WI σ → nowM σ 18 ≠ 0 → (sL σ).length + m ≤ 40 → WI (lotL m x σ) ∧ nowM (lotL m x σ) 18 = nowM σ 18
  | 0, _, _, h, _, _ => ⟨h, rfl⟩
  | m + 1, x, σ, h, h0, hl => by
    obtain ⟨g1, g2⟩ := h.app h0 (lotD_ok (x := lotN x) h.now h0) (by omega)
    obtain ⟨q1, q2⟩ := lotL_wi m (lotN x) _ g1 (by rw [g2]; exact h0) (by show (sL σ ++ [lotD (nowM σ) (lotN x)]).length + m ≤ 40; simp; omega)
    exact ⟨q1, q2.trans g2⟩
theorem wi_lots {σ : SG} {x y : Int32} (h : WI σ) : WI (S_lots σ x y).2 := by
  unfold S_lots
  split
  · split
    · exact h
    · split
      · exact h
      · exact (lotL_wi _ _ σ h (by assumption) (by omega)).1
  · exact h
