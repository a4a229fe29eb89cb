-- ===== a little library =====
theorem tr_iincN_0 {X : Nat × (Nat → Int32)} {d : Nat} {k : am_K} {Q : Option Value → am_M → Prop} {pc : Nat} {L S : List Value} {μ : am_M} {x : Nat} (hd : decode k.2.1 pc = .ok (.iinc 0 1, 3)) (hn : 0 < k.2.2.1) (h : tw X d k Q (pc + 3) (.int (nI (x + 1)) :: L) S μ) : tw X d k Q pc (.int (nI x) :: L) S μ := tr_iinc_0 hd hn (by rw [nI_1]; exact h)
theorem tr_iincN_1 {X : Nat × (Nat → Int32)} {d : Nat} {k : am_K} {Q : Option Value → am_M → Prop} {pc : Nat} {L S : List Value} {μ : am_M} {l0 : Value} {x : Nat} (hd : decode k.2.1 pc = .ok (.iinc 1 1, 3)) (hn : 1 < k.2.2.1) (hcat : l0.category = 1) (h : tw X d k Q (pc + 3) (l0 :: .int (nI (x + 1)) :: L) S μ) : tw X d k Q pc (l0 :: .int (nI x) :: L) S μ := tr_iinc_1 hd hn hcat (by rw [nI_1]; exact h)
theorem tr_iincN_2 {X : Nat × (Nat → Int32)} {d : Nat} {k : am_K} {Q : Option Value → am_M → Prop} {pc : Nat} {L S : List Value} {μ : am_M} {l0 l1 : Value} {x : Nat} (hd : decode k.2.1 pc = .ok (.iinc 2 1, 3)) (hn : 2 < k.2.2.1) (hcat : l1.category = 1) (h : tw X d k Q (pc + 3) (l0 :: l1 :: .int (nI (x + 1)) :: L) S μ) : tw X d k Q pc (l0 :: l1 :: .int (nI x) :: L) S μ := tr_iinc_2 hd hn hcat (by rw [nI_1]; exact h)
theorem tr_iincN_3 {X : Nat × (Nat → Int32)} {d : Nat} {k : am_K} {Q : Option Value → am_M → Prop} {pc : Nat} {L S : List Value} {μ : am_M} {l0 l1 l2 : Value} {x : Nat} (hd : decode k.2.1 pc = .ok (.iinc 3 1, 3)) (hn : 3 < k.2.2.1) (hcat : l2.category = 1) (h : tw X d k Q (pc + 3) (l0 :: l1 :: l2 :: .int (nI (x + 1)) :: L) S μ) : tw X d k Q pc (l0 :: l1 :: l2 :: .int (nI x) :: L) S μ := tr_iinc_3 hd hn hcat (by rw [nI_1]; exact h)
theorem tr_iincN_4 {X : Nat × (Nat → Int32)} {d : Nat} {k : am_K} {Q : Option Value → am_M → Prop} {pc : Nat} {L S : List Value} {μ : am_M} {l0 l1 l2 l3 : Value} {x : Nat} (hd : decode k.2.1 pc = .ok (.iinc 4 1, 3)) (hn : 4 < k.2.2.1) (hcat : l3.category = 1) (h : tw X d k Q (pc + 3) (l0 :: l1 :: l2 :: l3 :: .int (nI (x + 1)) :: L) S μ) : tw X d k Q pc (l0 :: l1 :: l2 :: l3 :: .int (nI x) :: L) S μ := tr_iinc_4 hd hn hcat (by rw [nI_1]; exact h)
theorem tr_iincN_5 {X : Nat × (Nat → Int32)} {d : Nat} {k : am_K} {Q : Option Value → am_M → Prop} {pc : Nat} {L S : List Value} {μ : am_M} {l0 l1 l2 l3 l4 : Value} {x : Nat} (hd : decode k.2.1 pc = .ok (.iinc 5 1, 3)) (hn : 5 < k.2.2.1) (hcat : l4.category = 1) (h : tw X d k Q (pc + 3) (l0 :: l1 :: l2 :: l3 :: l4 :: .int (nI (x + 1)) :: L) S μ) : tw X d k Q pc (l0 :: l1 :: l2 :: l3 :: l4 :: .int (nI x) :: L) S μ := tr_iinc_5 hd hn hcat (by rw [nI_1]; exact h)
theorem tr_iincN_6 {X : Nat × (Nat → Int32)} {d : Nat} {k : am_K} {Q : Option Value → am_M → Prop} {pc : Nat} {L S : List Value} {μ : am_M} {l0 l1 l2 l3 l4 l5 : Value} {x : Nat} (hd : decode k.2.1 pc = .ok (.iinc 6 1, 3)) (hn : 6 < k.2.2.1) (hcat : l5.category = 1) (h : tw X d k Q (pc + 3) (l0 :: l1 :: l2 :: l3 :: l4 :: l5 :: .int (nI (x + 1)) :: L) S μ) : tw X d k Q pc (l0 :: l1 :: l2 :: l3 :: l4 :: l5 :: .int (nI x) :: L) S μ := tr_iinc_6 hd hn hcat (by rw [nI_1]; exact h)
theorem tr_iincN_7 {X : Nat × (Nat → Int32)} {d : Nat} {k : am_K} {Q : Option Value → am_M → Prop} {pc : Nat} {L S : List Value} {μ : am_M} {l0 l1 l2 l3 l4 l5 l6 : Value} {x : Nat} (hd : decode k.2.1 pc = .ok (.iinc 7 1, 3)) (hn : 7 < k.2.2.1) (hcat : l6.category = 1) (h : tw X d k Q (pc + 3) (l0 :: l1 :: l2 :: l3 :: l4 :: l5 :: l6 :: .int (nI (x + 1)) :: L) S μ) : tw X d k Q pc (l0 :: l1 :: l2 :: l3 :: l4 :: l5 :: l6 :: .int (nI x) :: L) S μ := tr_iinc_7 hd hn hcat (by rw [nI_1]; exact h)
theorem tr_iincN_8 {X : Nat × (Nat → Int32)} {d : Nat} {k : am_K} {Q : Option Value → am_M → Prop} {pc : Nat} {L S : List Value} {μ : am_M} {l0 l1 l2 l3 l4 l5 l6 l7 : Value} {x : Nat} (hd : decode k.2.1 pc = .ok (.iinc 8 1, 3)) (hn : 8 < k.2.2.1) (hcat : l7.category = 1) (h : tw X d k Q (pc + 3) (l0 :: l1 :: l2 :: l3 :: l4 :: l5 :: l6 :: l7 :: .int (nI (x + 1)) :: L) S μ) : tw X d k Q pc (l0 :: l1 :: l2 :: l3 :: l4 :: l5 :: l6 :: l7 :: .int (nI x) :: L) S μ := tr_iinc_8 hd hn hcat (by rw [nI_1]; exact h)
theorem tr_iincN_9 {X : Nat × (Nat → Int32)} {d : Nat} {k : am_K} {Q : Option Value → am_M → Prop} {pc : Nat} {L S : List Value} {μ : am_M} {l0 l1 l2 l3 l4 l5 l6 l7 l8 : Value} {x : Nat} (hd : decode k.2.1 pc = .ok (.iinc 9 1, 3)) (hn : 9 < k.2.2.1) (hcat : l8.category = 1) (h : tw X d k Q (pc + 3) (l0 :: l1 :: l2 :: l3 :: l4 :: l5 :: l6 :: l7 :: l8 :: .int (nI (x + 1)) :: L) S μ) : tw X d k Q pc (l0 :: l1 :: l2 :: l3 :: l4 :: l5 :: l6 :: l7 :: l8 :: .int (nI x) :: L) S μ := tr_iinc_9 hd hn hcat (by rw [nI_1]; exact h)
theorem tr_iincN_10 {X : Nat × (Nat → Int32)} {d : Nat} {k : am_K} {Q : Option Value → am_M → Prop} {pc : Nat} {L S : List Value} {μ : am_M} {l0 l1 l2 l3 l4 l5 l6 l7 l8 l9 : Value} {x : Nat} (hd : decode k.2.1 pc = .ok (.iinc 10 1, 3)) (hn : 10 < k.2.2.1) (hcat : l9.category = 1) (h : tw X d k Q (pc + 3) (l0 :: l1 :: l2 :: l3 :: l4 :: l5 :: l6 :: l7 :: l8 :: l9 :: .int (nI (x + 1)) :: L) S μ) : tw X d k Q pc (l0 :: l1 :: l2 :: l3 :: l4 :: l5 :: l6 :: l7 :: l8 :: l9 :: .int (nI x) :: L) S μ := tr_iinc_10 hd hn hcat (by rw [nI_1]; exact h)
theorem tr_iincN_11 {X : Nat × (Nat → Int32)} {d : Nat} {k : am_K} {Q : Option Value → am_M → Prop} {pc : Nat} {L S : List Value} {μ : am_M} {l0 l1 l2 l3 l4 l5 l6 l7 l8 l9 l10 : Value} {x : Nat} (hd : decode k.2.1 pc = .ok (.iinc 11 1, 3)) (hn : 11 < k.2.2.1) (hcat : l10.category = 1) (h : tw X d k Q (pc + 3) (l0 :: l1 :: l2 :: l3 :: l4 :: l5 :: l6 :: l7 :: l8 :: l9 :: l10 :: .int (nI (x + 1)) :: L) S μ) : tw X d k Q pc (l0 :: l1 :: l2 :: l3 :: l4 :: l5 :: l6 :: l7 :: l8 :: l9 :: l10 :: .int (nI x) :: L) S μ := tr_iinc_11 hd hn hcat (by rw [nI_1]; exact h)
theorem tr_iincN_12 {X : Nat × (Nat → Int32)} {d : Nat} {k : am_K} {Q : Option Value → am_M → Prop} {pc : Nat} {L S : List Value} {μ : am_M} {l0 l1 l2 l3 l4 l5 l6 l7 l8 l9 l10 l11 : Value} {x : Nat} (hd : decode k.2.1 pc = .ok (.iinc 12 1, 3)) (hn : 12 < k.2.2.1) (hcat : l11.category = 1) (h : tw X d k Q (pc + 3) (l0 :: l1 :: l2 :: l3 :: l4 :: l5 :: l6 :: l7 :: l8 :: l9 :: l10 :: l11 :: .int (nI (x + 1)) :: L) S μ) : tw X d k Q pc (l0 :: l1 :: l2 :: l3 :: l4 :: l5 :: l6 :: l7 :: l8 :: l9 :: l10 :: l11 :: .int (nI x) :: L) S μ := tr_iinc_12 hd hn hcat (by rw [nI_1]; exact h)
theorem tr_iincN_13 {X : Nat × (Nat → Int32)} {d : Nat} {k : am_K} {Q : Option Value → am_M → Prop} {pc : Nat} {L S : List Value} {μ : am_M} {l0 l1 l2 l3 l4 l5 l6 l7 l8 l9 l10 l11 l12 : Value} {x : Nat} (hd : decode k.2.1 pc = .ok (.iinc 13 1, 3)) (hn : 13 < k.2.2.1) (hcat : l12.category = 1) (h : tw X d k Q (pc + 3) (l0 :: l1 :: l2 :: l3 :: l4 :: l5 :: l6 :: l7 :: l8 :: l9 :: l10 :: l11 :: l12 :: .int (nI (x + 1)) :: L) S μ) : tw X d k Q pc (l0 :: l1 :: l2 :: l3 :: l4 :: l5 :: l6 :: l7 :: l8 :: l9 :: l10 :: l11 :: l12 :: .int (nI x) :: L) S μ := tr_iinc_13 hd hn hcat (by rw [nI_1]; exact h)
theorem tr_iincN_14 {X : Nat × (Nat → Int32)} {d : Nat} {k : am_K} {Q : Option Value → am_M → Prop} {pc : Nat} {L S : List Value} {μ : am_M} {l0 l1 l2 l3 l4 l5 l6 l7 l8 l9 l10 l11 l12 l13 : Value} {x : Nat} (hd : decode k.2.1 pc = .ok (.iinc 14 1, 3)) (hn : 14 < k.2.2.1) (hcat : l13.category = 1) (h : tw X d k Q (pc + 3) (l0 :: l1 :: l2 :: l3 :: l4 :: l5 :: l6 :: l7 :: l8 :: l9 :: l10 :: l11 :: l12 :: l13 :: .int (nI (x + 1)) :: L) S μ) : tw X d k Q pc (l0 :: l1 :: l2 :: l3 :: l4 :: l5 :: l6 :: l7 :: l8 :: l9 :: l10 :: l11 :: l12 :: l13 :: .int (nI x) :: L) S μ := tr_iinc_14 hd hn hcat (by rw [nI_1]; exact h)
theorem tr_iincN_15 {X : Nat × (Nat → Int32)} {d : Nat} {k : am_K} {Q : Option Value → am_M → Prop} {pc : Nat} {L S : List Value} {μ : am_M} {l0 l1 l2 l3 l4 l5 l6 l7 l8 l9 l10 l11 l12 l13 l14 : Value} {x : Nat} (hd : decode k.2.1 pc = .ok (.iinc 15 1, 3)) (hn : 15 < k.2.2.1) (hcat : l14.category = 1) (h : tw X d k Q (pc + 3) (l0 :: l1 :: l2 :: l3 :: l4 :: l5 :: l6 :: l7 :: l8 :: l9 :: l10 :: l11 :: l12 :: l13 :: l14 :: .int (nI (x + 1)) :: L) S μ) : tw X d k Q pc (l0 :: l1 :: l2 :: l3 :: l4 :: l5 :: l6 :: l7 :: l8 :: l9 :: l10 :: l11 :: l12 :: l13 :: l14 :: .int (nI x) :: L) S μ := tr_iinc_15 hd hn hcat (by rw [nI_1]; exact h)
theorem tr_iincN_16 {X : Nat × (Nat → Int32)} {d : Nat} {k : am_K} {Q : Option Value → am_M → Prop} {pc : Nat} {L S : List Value} {μ : am_M} {l0 l1 l2 l3 l4 l5 l6 l7 l8 l9 l10 l11 l12 l13 l14 l15 : Value} {x : Nat} (hd : decode k.2.1 pc = .ok (.iinc 16 1, 3)) (hn : 16 < k.2.2.1) (hcat : l15.category = 1) (h : tw X d k Q (pc + 3) (l0 :: l1 :: l2 :: l3 :: l4 :: l5 :: l6 :: l7 :: l8 :: l9 :: l10 :: l11 :: l12 :: l13 :: l14 :: l15 :: .int (nI (x + 1)) :: L) S μ) : tw X d k Q pc (l0 :: l1 :: l2 :: l3 :: l4 :: l5 :: l6 :: l7 :: l8 :: l9 :: l10 :: l11 :: l12 :: l13 :: l14 :: l15 :: .int (nI x) :: L) S μ := tr_iinc_16 hd hn hcat (by rw [nI_1]; exact h)
theorem tr_iincN_17 {X : Nat × (Nat → Int32)} {d : Nat} {k : am_K} {Q : Option Value → am_M → Prop} {pc : Nat} {L S : List Value} {μ : am_M} {l0 l1 l2 l3 l4 l5 l6 l7 l8 l9 l10 l11 l12 l13 l14 l15 l16 : Value} {x : Nat} (hd : decode k.2.1 pc = .ok (.iinc 17 1, 3)) (hn : 17 < k.2.2.1) (hcat : l16.category = 1) (h : tw X d k Q (pc + 3) (l0 :: l1 :: l2 :: l3 :: l4 :: l5 :: l6 :: l7 :: l8 :: l9 :: l10 :: l11 :: l12 :: l13 :: l14 :: l15 :: l16 :: .int (nI (x + 1)) :: L) S μ) : tw X d k Q pc (l0 :: l1 :: l2 :: l3 :: l4 :: l5 :: l6 :: l7 :: l8 :: l9 :: l10 :: l11 :: l12 :: l13 :: l14 :: l15 :: l16 :: .int (nI x) :: L) S μ := tr_iinc_17 hd hn hcat (by rw [nI_1]; exact h)
def bN (b : Bool) : Nat := if b then 1 else 0
theorem bN_0 (b : Bool) : nI (bN b) = 0 ↔ b = false := by cases b <;> decide
theorem bN_1 (b : Bool) : ¬ nI (bN b) = 0 ↔ b = true := by cases b <;> decide
section LB
variable {X : Nat × (Nat → Int32)} {d : Nat} {k : am_K} {Q : Option Value → am_M → Prop} {pc : Nat} {L S : List Value} {μ : am_M}
theorem tr_ifb0 {b : Bool} {off : Int} {tgt : Nat} (hd : decode k.2.1 pc = .ok (.ifCond .eq off, 3)) (ht : (pc : Int) + off = (tgt : Int)) (hT : b = false → tw X d k Q tgt L S μ) (hF : b = true → tw X d k Q (pc + 3) L S μ) : tw X d k Q pc L (.int (nI (bN b)) :: S) μ := tr_if_eq hd ht (fun h => hT ((bN_0 b).mp h)) (fun h => hF ((bN_1 b).mp h))
theorem tr_ifb1 {b : Bool} {off : Int} {tgt : Nat} (hd : decode k.2.1 pc = .ok (.ifCond .ne off, 3)) (ht : (pc : Int) + off = (tgt : Int)) (hT : b = true → tw X d k Q tgt L S μ) (hF : b = false → tw X d k Q (pc + 3) L S μ) : tw X d k Q pc L (.int (nI (bN b)) :: S) μ := tr_if_ne hd ht (fun h => hT ((bN_1 b).mp h)) (fun h => hF ((bN_0 b).mp h))
theorem tr_retb {b : Bool} {Q1 : Int32 → am_M → Prop} (hk : k.2.2.2 = some .boolean) (hd : decode k.2.1 pc = .ok (.ireturn, 1)) (h : Q1 (nI (bN b)) μ) : tw X d k (qi Q1) pc L [.int (nI (bN b))] μ := tr_iret hd (by rw [hk]; cases b <;> rfl) h
theorem tr_v {x y : Int32} (e : x = y) (h : tw X d k Q pc L (.int y :: S) μ) : tw X d k Q pc L (.int x :: S) μ := by rw [e]; exact h
end LB
-- what two memories share
def same (μ μ' : am_M) (l : List Nat) : Prop := (∀ b, b ∉ l → μ'.1 b = μ.1 b) ∧ μ'.2 = μ.2
theorem same.rf (μ : am_M) (l : List Nat) : same μ μ l := ⟨fun _ _ => rfl, rfl⟩
theorem same.trans {μ μ1 μ2 : am_M} {l : List Nat} (h1 : same μ μ1 l) (h2 : same μ1 μ2 l) : same μ μ2 l := ⟨fun b hb => (h2.1 b hb).trans (h1.1 b hb), h2.2.trans h1.2⟩
theorem same.wide {μ μ1 : am_M} {l l' : List Nat} (h1 : same μ μ1 l) (h : ∀ b, b ∈ l → b ∈ l') : same μ μ1 l' := ⟨fun b hb => h1.1 b (fun q => hb (h b q)), h1.2⟩
theorem same.put {μ μ1 : am_M} {l : List Nat} (h1 : same μ μ1 l) {a : Nat} (f : Nat → Int32) (ha : a ∈ l) : same μ (sI μ1 a f) l := ⟨fun b hb => by
  have hne : b ≠ a := fun q => hb (by rw [q]; exact ha)
  rw [sI_ne _ _ hne]
  exact h1.1 b hb, h1.2⟩
-- ===== the board as a row of numbers: 0 power, 1 tick, 2 turns, 3 jammed, 4.. shows, 11.. goal, 18 many, 19.. kind, 26.. mark =====
abbrev NF : Type := Nat → Nat
def nu (c : NF) (k v : Nat) : NF := fun j => if j = k then v else c j
theorem nu_s (c : NF) (k v : Nat) : nu c k v k = v := if_pos rfl
theorem nu_n (c : NF) {k j : Nat} (v : Nat) (h : j ≠ k) : nu c k v j = c j := if_neg h
def evM (t q : Nat) : Bool := decide (nI t - nI t / nI q * nI q = 0)
def letM (kd t : Nat) (am : Bool) : Bool := if kd = 1 then evM t 2 else if kd = 4 then (if am then evM t 4 else evM t 2) else true
def rdyM (c : NF) (i : Nat) : Bool := decide (c (4 + i) ≠ c (11 + i)) && letM (c (19 + i)) (c 1) (decide (c (4 + i) = c (26 + i)))
def skM (sh g mk : Nat) : Nat := if (sh + 1) % 10 = mk ∧ mk ≠ g then (sh + 2) % 10 else (sh + 1) % 10
def trnM (kd sh g mk : Nat) : Nat := if kd = 3 then (sh + 9) % 10 else if kd = 2 then skM sh g mk else if kd = 5 then (if skM sh g mk = g then skM sh g mk else skM (skM sh g mk) g mk) else (sh + 1) % 10
def nxM (c : NF) (i : Nat) : Nat := trnM (c (19 + i)) (c (4 + i)) (c (11 + i)) (c (26 + i))
def jmM (c : NF) (i : Nat) : Bool := (c 3).testBit i
def goM : Nat → Nat → Nat → NF → NF × Nat
  | 0, _, n, c => (c, n)
  | m + 1, i, n, c => if n < c 0 then (if rdyM c i && !jmM c i then goM m (i + 1) (n + 1) (nu c (4 + i) (nxM c i)) else goM m (i + 1) n c) else (c, n)
def goC (c : NF) : NF := nu (nu (goM (c 18) 0 0 c).1 1 (c 1 + 1)) 2 (c 2 + (goM (c 18) 0 0 c).2)
def goN (c : NF) : Nat := (goM (c 18) 0 0 c).2
def wfc (c : NF) : Prop := c 18 ≤ 7 ∧ c 0 ≤ 9 ∧ c 3 < 2 ^ c 18 ∧ ∀ i, i < 7 → c (4 + i) < 10 ∧ c (11 + i) < 10 ∧ c (19 + i) < 6 ∧ c (26 + i) < 10
theorem skM_lt (sh g mk : Nat) : skM sh g mk < 10 := by unfold skM; split <;> omega
theorem trnM_lt (kd sh g mk : Nat) : trnM kd sh g mk < 10 := by
  have h1 := skM_lt sh g mk
  have h2 := skM_lt (skM sh g mk) g mk
  unfold trnM
  split
  · omega
  · split
    · omega
    · split
      · split <;> omega
      · omega
theorem wfc.jam0 {c : NF} (h : wfc c) : c 3 < 128 := by
  have h1 := h.1
  have h3 := h.2.2.1
  have : 2 ^ c 18 ≤ 2 ^ 7 := Nat.pow_le_pow_right (by omega) h1
  omega
theorem jam_bit : ∀ j, j < 128 → ∀ i, i < 7 → (nI j >>> (nI i &&& 31)) &&& nI 1 = nI (bN (j.testBit i)) := by decide +kernel
-- the class's board
def isB (a : Nat) : Prop := (am_in a ∧ am_in (a + 1) ∧ am_in (a + 2) ∧ am_in (a + 3) ∧ am_in (a + 4)) ∧ shp a = (8, 0, [a + 1, a + 2, a + 3, a + 4, 0, 0, 0, 0, 0]) ∧ shp (a + 1) = (0, 7, []) ∧ shp (a + 2) = (0, 7, []) ∧ shp (a + 3) = (0, 7, []) ∧ shp (a + 4) = (0, 7, [])
def BR (μ : am_M) (a : Nat) (c : NF) : Prop := μ.1 a 4 = nI (c 18) ∧ μ.1 a 5 = nI (c 0) ∧ μ.1 a 6 = nI (c 1) ∧ μ.1 a 7 = nI (c 2) ∧ μ.1 a 8 = nI (c 3) ∧ ∀ i, i < c 18 → μ.1 (a + 1) i = nI (c (19 + i)) ∧ μ.1 (a + 2) i = nI (c (4 + i)) ∧ μ.1 (a + 3) i = nI (c (11 + i)) ∧ μ.1 (a + 4) i = nI (c (26 + i))
theorem BR.kept {μ μ' : am_M} {a : Nat} {c : NF} {l : List Nat} (h : BR μ a c) (hs : same μ μ' l) (h0 : a ∉ l) (h1 : a + 1 ∉ l) (h2 : a + 2 ∉ l) (h3 : a + 3 ∉ l) (h4 : a + 4 ∉ l) : BR μ' a c := by
  unfold BR
  rw [hs.1 a h0, hs.1 _ h1, hs.1 _ h2, hs.1 _ h3, hs.1 _ h4]
  exact h
