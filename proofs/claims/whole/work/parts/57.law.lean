-- ===== the law: its loop over the script =====
abbrev LQ : Option Value → am_M → Prop := qi (fun v _ => v = 1)
theorem MI.frM {μ μ' : am_M} {σ : SG} (h : MI μ σ) (hs : fr μ μ') : MI μ' σ := by
  obtain ⟨h1, h2, h3, h4, h5, h6, h7, h8, h9, h10, h11⟩ := h
  have hn : ∀ b, 99 ≤ b → μ'.1 b = μ.1 b ∧ μ'.2 b = μ.2 b := hs
  have n99 := hn 99 (by omega)
  exact ⟨fun r hr => (h1 r hr).kept (hn _ (by omega)).1 (hn _ (by omega)).1, fun t ht => (h2 t ht).kept (hn _ (by omega)).1 (hn _ (by omega)).1, h3.kept (hn _ (by omega)).1, by rw [n99.1]; exact h4, h5.kept (hn _ (by omega)).1, fun k hk => (h6 k hk).kept (hn _ (by omega)).1 (hn _ (by omega)).1 (hn _ (by omega)).1 rfl rfl, by rw [n99.1]; exact h7, by rw [n99.1]; exact h8, fun f hf => by rw [(hn 113 (by omega)).1]; exact h9 f hf, by rw [n99.2]; exact h10, by rw [n99.2]; exact h11⟩
theorem CI.fqC {μ μ' : am_M} {σ : SG} (h : CI μ σ) (hs : fq μ μ') : CI μ' σ := by
  obtain ⟨h1, h2, h3, h4, h5, h6, h7, h8, h9, h10, h11⟩ := h
  have hn : ∀ b, b < 99 → μ'.1 b = μ.1 b ∧ μ'.2 b = μ.2 b := hs
  refine ⟨fun r hr => (h1 r hr).kept (hn _ (by omega)).1 (hn _ (by omega)).1, fun t ht => (h2 t ht).kept (hn _ (by omega)).1 (hn _ (by omega)).1, h3.keep (fun b b1 b2 => (hn b (by omega)).1), h4.keep (fun b b1 b2 => (hn b (by omega)).1), h5.kept (hn _ (by omega)).1 (hn _ (by omega)).1, fun k hk => (h6 k hk).kept (hn _ (by omega)).1 (hn _ (by omega)).1, ?_, ?_, fun f hf => ?_, ?_, ?_⟩
  · rw [(hn 2 (by omega)).1]; exact h7
  · rw [(hn 2 (by omega)).1]; exact h8
  · rw [(hn 72 (by omega)).1]; exact h9 f hf
  · rw [(hn 71 (by omega)).2]; exact h10
  · rw [(hn 71 (by omega)).2]; exact h11
-- the first state
def sg0 : SG := (fun _ => none, fun _ => none, fun _ => 0, [], fun _ => none, 0, 0, 1, 0, fun _ => 0)
theorem ci0 : CI mu0 sg0 := by
  refine ⟨fun r hr => ?_, fun t ht => ?_, ⟨rfl, rfl, rfl, rfl, rfl, fun i hi => absurd hi (Nat.not_lt_zero i)⟩, ⟨rfl, rfl, rfl, rfl, rfl, fun i hi => absurd hi (Nat.not_lt_zero i)⟩, ⟨by decide, rfl, fun i hi => absurd hi (Nat.not_lt_zero i)⟩, fun k hk => ?_, rfl, rfl, fun f hf => rfl, rfl, rfl⟩
  · have : r = 0 ∨ r = 1 ∨ r = 2 ∨ r = 3 ∨ r = 4 ∨ r = 5 := by omega
    rcases this with rfl | rfl | rfl | rfl | rfl | rfl <;> rfl
  · have : t = 0 ∨ t = 1 ∨ t = 2 ∨ t = 3 := by omega
    rcases this with rfl | rfl | rfl | rfl <;> rfl
  · have : k = 0 ∨ k = 1 ∨ k = 2 := by omega
    rcases this with rfl | rfl | rfl <;> rfl
theorem mi0 : MI mu0 sg0 := by
  refine ⟨fun r hr => ?_, fun t ht => ?_, fun i hi => rfl, rfl, fun n hn => absurd hn (Nat.not_lt_zero n), fun k hk => ⟨?_, fun l hl => by cases hl⟩, rfl, rfl, fun f hf => rfl, rfl, rfl⟩
  · have : r = 0 ∨ r = 1 ∨ r = 2 ∨ r = 3 ∨ r = 4 ∨ r = 5 := by omega
    rcases this with rfl | rfl | rfl | rfl | rfl | rfl <;> rfl
  · have : t = 0 ∨ t = 1 ∨ t = 2 ∨ t = 3 := by omega
    rcases this with rfl | rfl | rfl | rfl <;> rfl
  · have : k = 0 ∨ k = 1 ∨ k = 2 := by omega
    rcases this with rfl | rfl | rfl <;> rfl
theorem wi0 : WI sg0 := by
  refine ⟨⟨by decide, by decide, by decide, fun i hi => ⟨show (0 : Nat) < 10 by decide, show (0 : Nat) < 10 by decide, show (0 : Nat) < 6 by decide, show (0 : Nat) < 10 by decide⟩⟩, rfl, ⟨by decide, fun dd hd => ?_⟩, fun k l hl => ?_, fun _ => ⟨rfl, fun k => rfl⟩⟩
  · cases hd
  · cases hl
theorem tr_ii6 {X : Nat × (Nat → Int32)} {d : Nat} {k : am_K} {Q : Option Value → am_M → Prop} {pc : Nat} {S : List Value} {μ : am_M} {x a b c : Nat} (hd : decode k.2.1 pc = .ok (.iinc 3 6, 3)) (hn : 3 < k.2.2.1) (h : tw X d k Q (pc + 3) [.ref a, .ref b, .ref c, .int (nI (x + 6))] S μ) : tw X d k Q pc [.ref a, .ref b, .ref c, .int (nI x)] S μ := w_iinc _ _ _ _ _ _ _ _ hd rfl (nI_add x 6) hn h
theorem hp_of {c : Nat → am_C} {μ : am_M} (h : ∀ q, q < 115 → c q = am_co (shp (q + 2)) μ (q + 2)) : hl 115 c = hp μ := hl_congr h
theorem sc_le (s : am_Sh) (μ : am_M) (a : Nat) : am_sc (am_co s μ a) ≤ s.2.1 + s.2.2.length := by
  obtain ⟨t, n, cs⟩ := s
  match t with
  | 0 => exact Nat.le_add_right _ _
  | 1 => exact Nat.le_add_right _ _
  | 2 => exact Nat.le_add_right _ _
  | 3 => exact Nat.le_add_left _ _
  | 4 => exact Nat.le_add_left _ _
  | 5 => exact Nat.le_add_left _ _
  | 6 => exact Nat.le_add_left _ _
  | 7 => exact Nat.le_add_left _ _
  | t + 8 =>
    show (am_fo μ a 0 cs).length ≤ n + cs.length
    rw [am_fo_len]
    exact Nat.le_add_left _ _
theorem sz_le : ∀ (h : am_H) (B : Nat), (∀ x ∈ h, am_sc x ≤ B) → am_sz h ≤ h.length * B
  | [], _, _ => Nat.zero_le _
  | x :: h, B, hB => by
    have h1 := hB x List.mem_cons_self
    have h2 := sz_le h B (fun y hy => hB y (List.mem_cons_of_mem _ hy))
    show am_sc x + am_sz h ≤ (h.length + 1) * B
    rw [Nat.add_mul, Nat.one_mul]
    omega
theorem shp_le : ∀ a, a < 115 → (shp (a + 2)).2.1 + (shp (a + 2)).2.2.length ≤ 3000 := by decide +kernel
theorem hp_sz (μ : am_M) : am_sz (hp μ) ≤ 7302250 := by
  have := sz_le (hp μ) 3000 (fun x hx => by
    unfold hp at hx
    obtain ⟨a, ha, rfl⟩ := List.mem_map.mp hx
    have h1 := shp_le a (List.mem_range.mp ha)
    have h2 := sc_le (shp (a + 2)) μ (a + 2)
    omega)
  rw [hp_len] at this
  omega
section LW
variable {X : Nat × (Nat → Int32)} {μ : am_M} {σ : SG} {i : Nat}
theorem lc_0 (hi : i + 6 ≤ X.1) (hX : X.1 ≤ 3072) (hC : CI μ σ) (hM : MI μ σ) (hW : WI σ) (hn : ∀ μ' σ', CI μ' σ' → MI μ' σ' → WI σ' → tw X 40 am_kL LQ 1234 [.ref 0, .ref 2, .ref 99, .int (nI i)] [] μ') : tw X 40 am_kL LQ 204 [.ref 0, .ref 2, .ref 99, .int (nI i)] [] μ := by
  refine tr_aload_n dL_law_204 rfl ?_
  refine tr_aload_n dL_law_205 rfl ?_
  refine tr_iload_n dL_law_206 rfl ?_
  refine tr_iconst (v := nI 1) dL_law_207 (by decide) ?_
  refine tr_iaddN dL_law_208 ?_
  refine tr_sald dL_law_209 rfl (by omega) (by omega) ?_
  refine tr_aload_n dL_law_210 rfl ?_
  refine tr_iload_n dL_law_211 rfl ?_
  refine tr_iconst (v := nI 2) dL_law_212 (by decide) ?_
  refine tr_iaddN dL_law_213 ?_
  refine tr_sald dL_law_214 rfl (by omega) (by omega) ?_
  -- at 215: .invokevirtual 13
  refine tr_Vi (As := [_, _]) dL_law_215 fm_RL_13 rfl rfl (by first | assumption | decide) (by first | assumption | rfl) (Nat.le_of_ble_eq_true rfl) (f_row hC) (fun v1 μ1 ⟨e1, e2, e3⟩ => ?_)
  refine tr_aload_n dL_law_218 rfl ?_
  refine tr_aload_n dL_law_219 rfl ?_
  refine tr_iload_n dL_law_220 rfl ?_
  refine tr_iconst (v := nI 1) dL_law_221 (by decide) ?_
  refine tr_iaddN dL_law_222 ?_
  refine tr_sald dL_law_223 rfl (by omega) (by omega) ?_
  refine tr_aload_n dL_law_224 rfl ?_
  refine tr_iload_n dL_law_225 rfl ?_
  refine tr_iconst (v := nI 2) dL_law_226 (by decide) ?_
  refine tr_iaddN dL_law_227 ?_
  refine tr_sald dL_law_228 rfl (by omega) (by omega) ?_
  -- at 229: .invokevirtual 17
  refine tr_Vi (As := [_, _]) dL_law_229 fm_RL_17 rfl rfl (by first | assumption | decide) (by first | assumption | rfl) (Nat.le_of_ble_eq_true rfl) (r_row (hM.frM e3)) (fun v2 μ2 ⟨u1, u2, u3⟩ => ?_)
  refine tr_icmp_eq (tgt := 1234) dL_law_232 (by decide) (fun h1 => ?_) (fun h1 => ?_)
  · exact hn μ2 _ (e2.fqC u3) u2 (hW.kp k_row)
  · exact absurd (e1.trans u1.symm) h1
theorem lc_1 (hi : i + 6 ≤ X.1) (hX : X.1 ≤ 3072) (hC : CI μ σ) (hM : MI μ σ) (hW : WI σ) (hn : ∀ μ' σ', CI μ' σ' → MI μ' σ' → WI σ' → tw X 40 am_kL LQ 1234 [.ref 0, .ref 2, .ref 99, .int (nI i)] [] μ') : tw X 40 am_kL LQ 237 [.ref 0, .ref 2, .ref 99, .int (nI i)] [] μ := by
  refine tr_aload_n dL_law_237 rfl ?_
  refine tr_aload_n dL_law_238 rfl ?_
  refine tr_iload_n dL_law_239 rfl ?_
  refine tr_iconst (v := nI 1) dL_law_240 (by decide) ?_
  refine tr_iaddN dL_law_241 ?_
  refine tr_sald dL_law_242 rfl (by omega) (by omega) ?_
  refine tr_aload_n dL_law_243 rfl ?_
  refine tr_iload_n dL_law_244 rfl ?_
  refine tr_iconst (v := nI 2) dL_law_245 (by decide) ?_
  refine tr_iaddN dL_law_246 ?_
  refine tr_sald dL_law_247 rfl (by omega) (by omega) ?_
  refine tr_aload_n dL_law_248 rfl ?_
  refine tr_iload_n dL_law_249 rfl ?_
  refine tr_iconst (v := nI 3) dL_law_250 (by decide) ?_
  refine tr_iaddN dL_law_251 ?_
  refine tr_sald dL_law_252 rfl (by omega) (by omega) ?_
  -- at 253: .invokevirtual 18
  refine tr_Vi (As := [_, _, _]) dL_law_253 fm_RL_18 rfl rfl (by first | assumption | decide) (by first | assumption | rfl) (Nat.le_of_ble_eq_true rfl) (f_lay hC) (fun v1 μ1 ⟨e1, e2, e3⟩ => ?_)
  refine tr_aload_n dL_law_256 rfl ?_
  refine tr_aload_n dL_law_257 rfl ?_
  refine tr_iload_n dL_law_258 rfl ?_
  refine tr_iconst (v := nI 1) dL_law_259 (by decide) ?_
  refine tr_iaddN dL_law_260 ?_
  refine tr_sald dL_law_261 rfl (by omega) (by omega) ?_
  refine tr_aload_n dL_law_262 rfl ?_
  refine tr_iload_n dL_law_263 rfl ?_
  refine tr_iconst (v := nI 2) dL_law_264 (by decide) ?_
  refine tr_iaddN dL_law_265 ?_
  refine tr_sald dL_law_266 rfl (by omega) (by omega) ?_
  refine tr_aload_n dL_law_267 rfl ?_
  refine tr_iload_n dL_law_268 rfl ?_
  refine tr_iconst (v := nI 3) dL_law_269 (by decide) ?_
  refine tr_iaddN dL_law_270 ?_
  refine tr_sald dL_law_271 rfl (by omega) (by omega) ?_
  -- at 272: .invokevirtual 22
  refine tr_Vi (As := [_, _, _]) dL_law_272 fm_RL_22 rfl rfl (by first | assumption | decide) (by first | assumption | rfl) (Nat.le_of_ble_eq_true rfl) (r_lay (hM.frM e3)) (fun v2 μ2 ⟨u1, u2, u3⟩ => ?_)
  refine tr_icmp_eq (tgt := 1234) dL_law_275 (by decide) (fun h1 => ?_) (fun h1 => ?_)
  · exact hn μ2 _ (e2.fqC u3) u2 (hW.kp k_lay)
  · exact absurd (e1.trans u1.symm) h1
theorem lc_2 (hi : i + 6 ≤ X.1) (hX : X.1 ≤ 3072) (hC : CI μ σ) (hM : MI μ σ) (hW : WI σ) (hn : ∀ μ' σ', CI μ' σ' → MI μ' σ' → WI σ' → tw X 40 am_kL LQ 1234 [.ref 0, .ref 2, .ref 99, .int (nI i)] [] μ') : tw X 40 am_kL LQ 280 [.ref 0, .ref 2, .ref 99, .int (nI i)] [] μ := by
  refine tr_aload_n dL_law_280 rfl ?_
  refine tr_aload_n dL_law_281 rfl ?_
  refine tr_iload_n dL_law_282 rfl ?_
  refine tr_iconst (v := nI 1) dL_law_283 (by decide) ?_
  refine tr_iaddN dL_law_284 ?_
  refine tr_sald dL_law_285 rfl (by omega) (by omega) ?_
  refine tr_aload_n dL_law_286 rfl ?_
  refine tr_iload_n dL_law_287 rfl ?_
  refine tr_iconst (v := nI 2) dL_law_288 (by decide) ?_
  refine tr_iaddN dL_law_289 ?_
  refine tr_sald dL_law_290 rfl (by omega) (by omega) ?_
  -- at 291: .invokevirtual 23
  refine tr_Vi (As := [_, _]) dL_law_291 fm_RL_23 rfl rfl (by first | assumption | decide) (by first | assumption | rfl) (Nat.le_of_ble_eq_true rfl) (f_at hC) (fun v1 μ1 ⟨e1, e2, e3⟩ => ?_)
  refine tr_aload_n dL_law_294 rfl ?_
  refine tr_aload_n dL_law_295 rfl ?_
  refine tr_iload_n dL_law_296 rfl ?_
  refine tr_iconst (v := nI 1) dL_law_297 (by decide) ?_
  refine tr_iaddN dL_law_298 ?_
  refine tr_sald dL_law_299 rfl (by omega) (by omega) ?_
  refine tr_aload_n dL_law_300 rfl ?_
  refine tr_iload_n dL_law_301 rfl ?_
  refine tr_iconst (v := nI 2) dL_law_302 (by decide) ?_
  refine tr_iaddN dL_law_303 ?_
  refine tr_sald dL_law_304 rfl (by omega) (by omega) ?_
  -- at 305: .invokevirtual 26
  refine tr_Vi (As := [_, _]) dL_law_305 fm_RL_26 rfl rfl (by first | assumption | decide) (by first | assumption | rfl) (Nat.le_of_ble_eq_true rfl) (r_at (hM.frM e3)) (fun v2 μ2 ⟨u1, u2, u3⟩ => ?_)
  refine tr_icmp_eq (tgt := 1234) dL_law_308 (by decide) (fun h1 => ?_) (fun h1 => ?_)
  · exact hn μ2 _ (e2.fqC u3) u2 (hW.kp k_at)
  · exact absurd (e1.trans u1.symm) h1
theorem lc_3 (hi : i + 6 ≤ X.1) (hX : X.1 ≤ 3072) (hC : CI μ σ) (hM : MI μ σ) (hW : WI σ) (hn : ∀ μ' σ', CI μ' σ' → MI μ' σ' → WI σ' → tw X 40 am_kL LQ 1234 [.ref 0, .ref 2, .ref 99, .int (nI i)] [] μ') : tw X 40 am_kL LQ 313 [.ref 0, .ref 2, .ref 99, .int (nI i)] [] μ := by
  refine tr_aload_n dL_law_313 rfl ?_
  refine tr_aload_n dL_law_314 rfl ?_
  refine tr_iload_n dL_law_315 rfl ?_
  refine tr_iconst (v := nI 1) dL_law_316 (by decide) ?_
  refine tr_iaddN dL_law_317 ?_
  refine tr_sald dL_law_318 rfl (by omega) (by omega) ?_
  -- at 319: .invokevirtual 27
  refine tr_Vi (As := [_]) dL_law_319 fm_RL_27 rfl rfl (by first | assumption | decide) (by first | assumption | rfl) (Nat.le_of_ble_eq_true rfl) (f_tear hC) (fun v1 μ1 ⟨e1, e2, e3⟩ => ?_)
  refine tr_aload_n dL_law_322 rfl ?_
  refine tr_aload_n dL_law_323 rfl ?_
  refine tr_iload_n dL_law_324 rfl ?_
  refine tr_iconst (v := nI 1) dL_law_325 (by decide) ?_
  refine tr_iaddN dL_law_326 ?_
  refine tr_sald dL_law_327 rfl (by omega) (by omega) ?_
  -- at 328: .invokevirtual 31
  refine tr_Vi (As := [_]) dL_law_328 fm_RL_31 rfl rfl (by first | assumption | decide) (by first | assumption | rfl) (Nat.le_of_ble_eq_true rfl) (r_tear (hM.frM e3)) (fun v2 μ2 ⟨u1, u2, u3⟩ => ?_)
  refine tr_icmp_eq (tgt := 1234) dL_law_331 (by decide) (fun h1 => ?_) (fun h1 => ?_)
  · exact hn μ2 _ (e2.fqC u3) u2 (hW.kp k_tear)
  · exact absurd (e1.trans u1.symm) h1
theorem lc_4 (hi : i + 6 ≤ X.1) (hX : X.1 ≤ 3072) (hC : CI μ σ) (hM : MI μ σ) (hW : WI σ) (hn : ∀ μ' σ', CI μ' σ' → MI μ' σ' → WI σ' → tw X 40 am_kL LQ 1234 [.ref 0, .ref 2, .ref 99, .int (nI i)] [] μ') : tw X 40 am_kL LQ 336 [.ref 0, .ref 2, .ref 99, .int (nI i)] [] μ := by
  refine tr_aload_n dL_law_336 rfl ?_
  refine tr_aload_n dL_law_337 rfl ?_
  refine tr_iload_n dL_law_338 rfl ?_
  refine tr_iconst (v := nI 1) dL_law_339 (by decide) ?_
  refine tr_iaddN dL_law_340 ?_
  refine tr_sald dL_law_341 rfl (by omega) (by omega) ?_
  refine tr_aload_n dL_law_342 rfl ?_
  refine tr_iload_n dL_law_343 rfl ?_
  refine tr_iconst (v := nI 2) dL_law_344 (by decide) ?_
  refine tr_iaddN dL_law_345 ?_
  refine tr_sald dL_law_346 rfl (by omega) (by omega) ?_
  refine tr_aload_n dL_law_347 rfl ?_
  refine tr_iload_n dL_law_348 rfl ?_
  refine tr_iconst (v := nI 3) dL_law_349 (by decide) ?_
  refine tr_iaddN dL_law_350 ?_
  refine tr_sald dL_law_351 rfl (by omega) (by omega) ?_
  refine tr_aload_n dL_law_352 rfl ?_
  refine tr_iload_n dL_law_353 rfl ?_
  refine tr_iconst (v := nI 4) dL_law_354 (by decide) ?_
  refine tr_iaddN dL_law_355 ?_
  refine tr_sald dL_law_356 rfl (by omega) (by omega) ?_
  refine tr_aload_n dL_law_357 rfl ?_
  refine tr_iload_n dL_law_358 rfl ?_
  refine tr_iconst (v := nI 5) dL_law_359 (by decide) ?_
  refine tr_iaddN dL_law_360 ?_
  refine tr_sald dL_law_361 rfl (by omega) (by omega) ?_
  -- at 362: .invokevirtual 32
  refine tr_Vi (As := [_, _, _, _, _]) dL_law_362 fm_RL_32 rfl rfl (by first | assumption | decide) (by first | assumption | rfl) (Nat.le_of_ble_eq_true rfl) (f_copy hC) (fun v1 μ1 ⟨e1, e2, e3⟩ => ?_)
  refine tr_aload_n dL_law_365 rfl ?_
  refine tr_aload_n dL_law_366 rfl ?_
  refine tr_iload_n dL_law_367 rfl ?_
  refine tr_iconst (v := nI 1) dL_law_368 (by decide) ?_
  refine tr_iaddN dL_law_369 ?_
  refine tr_sald dL_law_370 rfl (by omega) (by omega) ?_
  refine tr_aload_n dL_law_371 rfl ?_
  refine tr_iload_n dL_law_372 rfl ?_
  refine tr_iconst (v := nI 2) dL_law_373 (by decide) ?_
  refine tr_iaddN dL_law_374 ?_
  refine tr_sald dL_law_375 rfl (by omega) (by omega) ?_
  refine tr_aload_n dL_law_376 rfl ?_
  refine tr_iload_n dL_law_377 rfl ?_
  refine tr_iconst (v := nI 3) dL_law_378 (by decide) ?_
  refine tr_iaddN dL_law_379 ?_
  refine tr_sald dL_law_380 rfl (by omega) (by omega) ?_
  refine tr_aload_n dL_law_381 rfl ?_
  refine tr_iload_n dL_law_382 rfl ?_
  refine tr_iconst (v := nI 4) dL_law_383 (by decide) ?_
  refine tr_iaddN dL_law_384 ?_
  refine tr_sald dL_law_385 rfl (by omega) (by omega) ?_
  refine tr_aload_n dL_law_386 rfl ?_
  refine tr_iload_n dL_law_387 rfl ?_
  refine tr_iconst (v := nI 5) dL_law_388 (by decide) ?_
  refine tr_iaddN dL_law_389 ?_
  refine tr_sald dL_law_390 rfl (by omega) (by omega) ?_
  -- at 391: .invokevirtual 36
  refine tr_Vi (As := [_, _, _, _, _]) dL_law_391 fm_RL_36 rfl rfl (by first | assumption | decide) (by first | assumption | rfl) (Nat.le_of_ble_eq_true rfl) (r_copy (hM.frM e3)) (fun v2 μ2 ⟨u1, u2, u3⟩ => ?_)
  refine tr_icmp_eq (tgt := 1234) dL_law_394 (by decide) (fun h1 => ?_) (fun h1 => ?_)
  · exact hn μ2 _ (e2.fqC u3) u2 (hW.kp k_copy)
  · exact absurd (e1.trans u1.symm) h1
theorem lc_5 (hi : i + 6 ≤ X.1) (hX : X.1 ≤ 3072) (hC : CI μ σ) (hM : MI μ σ) (hW : WI σ) (hn : ∀ μ' σ', CI μ' σ' → MI μ' σ' → WI σ' → tw X 40 am_kL LQ 1234 [.ref 0, .ref 2, .ref 99, .int (nI i)] [] μ') : tw X 40 am_kL LQ 399 [.ref 0, .ref 2, .ref 99, .int (nI i)] [] μ := by
  refine tr_aload_n dL_law_399 rfl ?_
  refine tr_aload_n dL_law_400 rfl ?_
  refine tr_iload_n dL_law_401 rfl ?_
  refine tr_iconst (v := nI 1) dL_law_402 (by decide) ?_
  refine tr_iaddN dL_law_403 ?_
  refine tr_sald dL_law_404 rfl (by omega) (by omega) ?_
  -- at 405: .invokevirtual 37
  refine tr_Vi (As := [_]) dL_law_405 fm_RL_37 rfl rfl (by first | assumption | decide) (by first | assumption | rfl) (Nat.le_of_ble_eq_true rfl) (f_mean hC) (fun v1 μ1 ⟨e1, e2, e3⟩ => ?_)
  refine tr_aload_n dL_law_408 rfl ?_
  refine tr_aload_n dL_law_409 rfl ?_
  refine tr_iload_n dL_law_410 rfl ?_
  refine tr_iconst (v := nI 1) dL_law_411 (by decide) ?_
  refine tr_iaddN dL_law_412 ?_
  refine tr_sald dL_law_413 rfl (by omega) (by omega) ?_
  -- at 414: .invokevirtual 40
  refine tr_Vi (As := [_]) dL_law_414 fm_RL_40 rfl rfl (by first | assumption | decide) (by first | assumption | rfl) (Nat.le_of_ble_eq_true rfl) (r_mean (hM.frM e3)) (fun v2 μ2 ⟨u1, u2, u3⟩ => ?_)
  refine tr_icmp_eq (tgt := 1234) dL_law_417 (by decide) (fun h1 => ?_) (fun h1 => ?_)
  · exact hn μ2 _ (e2.fqC u3) u2 (hW.kp k_mean)
  · exact absurd (e1.trans u1.symm) h1
theorem lc_6 (hi : i + 6 ≤ X.1) (hX : X.1 ≤ 3072) (hC : CI μ σ) (hM : MI μ σ) (hW : WI σ) (hn : ∀ μ' σ', CI μ' σ' → MI μ' σ' → WI σ' → tw X 40 am_kL LQ 1234 [.ref 0, .ref 2, .ref 99, .int (nI i)] [] μ') : tw X 40 am_kL LQ 422 [.ref 0, .ref 2, .ref 99, .int (nI i)] [] μ := by
  refine tr_aload_n dL_law_422 rfl ?_
  refine tr_aload_n dL_law_423 rfl ?_
  refine tr_iload_n dL_law_424 rfl ?_
  refine tr_iconst (v := nI 1) dL_law_425 (by decide) ?_
  refine tr_iaddN dL_law_426 ?_
  refine tr_sald dL_law_427 rfl (by omega) (by omega) ?_
  refine tr_aload_n dL_law_428 rfl ?_
  refine tr_iload_n dL_law_429 rfl ?_
  refine tr_iconst (v := nI 2) dL_law_430 (by decide) ?_
  refine tr_iaddN dL_law_431 ?_
  refine tr_sald dL_law_432 rfl (by omega) (by omega) ?_
  -- at 433: .invokevirtual 41
  refine tr_Vi (As := [_, _]) dL_law_433 fm_RL_41 rfl rfl (by first | assumption | decide) (by first | assumption | rfl) (Nat.le_of_ble_eq_true rfl) (f_text hC) (fun v1 μ1 ⟨e1, e2, e3⟩ => ?_)
  refine tr_aload_n dL_law_436 rfl ?_
  refine tr_aload_n dL_law_437 rfl ?_
  refine tr_iload_n dL_law_438 rfl ?_
  refine tr_iconst (v := nI 1) dL_law_439 (by decide) ?_
  refine tr_iaddN dL_law_440 ?_
  refine tr_sald dL_law_441 rfl (by omega) (by omega) ?_
  refine tr_aload_n dL_law_442 rfl ?_
  refine tr_iload_n dL_law_443 rfl ?_
  refine tr_iconst (v := nI 2) dL_law_444 (by decide) ?_
  refine tr_iaddN dL_law_445 ?_
  refine tr_sald dL_law_446 rfl (by omega) (by omega) ?_
  -- at 447: .invokevirtual 44
  refine tr_Vi (As := [_, _]) dL_law_447 fm_RL_44 rfl rfl (by first | assumption | decide) (by first | assumption | rfl) (Nat.le_of_ble_eq_true rfl) (r_text (hM.frM e3)) (fun v2 μ2 ⟨u1, u2, u3⟩ => ?_)
  refine tr_icmp_eq (tgt := 1234) dL_law_450 (by decide) (fun h1 => ?_) (fun h1 => ?_)
  · exact hn μ2 _ (e2.fqC u3) u2 (hW.kp k_text)
  · exact absurd (e1.trans u1.symm) h1
theorem lc_7 (hi : i + 6 ≤ X.1) (hX : X.1 ≤ 3072) (hC : CI μ σ) (hM : MI μ σ) (hW : WI σ) (hn : ∀ μ' σ', CI μ' σ' → MI μ' σ' → WI σ' → tw X 40 am_kL LQ 1234 [.ref 0, .ref 2, .ref 99, .int (nI i)] [] μ') : tw X 40 am_kL LQ 455 [.ref 0, .ref 2, .ref 99, .int (nI i)] [] μ := by
  refine tr_aload_n dL_law_455 rfl ?_
  refine tr_aload_n dL_law_456 rfl ?_
  refine tr_iload_n dL_law_457 rfl ?_
  refine tr_iconst (v := nI 1) dL_law_458 (by decide) ?_
  refine tr_iaddN dL_law_459 ?_
  refine tr_sald dL_law_460 rfl (by omega) (by omega) ?_
  refine tr_aload_n dL_law_461 rfl ?_
  refine tr_iload_n dL_law_462 rfl ?_
  refine tr_iconst (v := nI 2) dL_law_463 (by decide) ?_
  refine tr_iaddN dL_law_464 ?_
  refine tr_sald dL_law_465 rfl (by omega) (by omega) ?_
  refine tr_aload_n dL_law_466 rfl ?_
  refine tr_iload_n dL_law_467 rfl ?_
  refine tr_iconst (v := nI 3) dL_law_468 (by decide) ?_
  refine tr_iaddN dL_law_469 ?_
  refine tr_sald dL_law_470 rfl (by omega) (by omega) ?_
  -- at 471: .invokevirtual 45
  refine tr_Vi (As := [_, _, _]) dL_law_471 fm_RL_45 rfl rfl (by first | assumption | decide) (by first | assumption | rfl) (Nat.le_of_ble_eq_true rfl) (f_put hC) (fun v1 μ1 ⟨e1, e2, e3⟩ => ?_)
  refine tr_aload_n dL_law_474 rfl ?_
  refine tr_aload_n dL_law_475 rfl ?_
  refine tr_iload_n dL_law_476 rfl ?_
  refine tr_iconst (v := nI 1) dL_law_477 (by decide) ?_
  refine tr_iaddN dL_law_478 ?_
  refine tr_sald dL_law_479 rfl (by omega) (by omega) ?_
  refine tr_aload_n dL_law_480 rfl ?_
  refine tr_iload_n dL_law_481 rfl ?_
  refine tr_iconst (v := nI 2) dL_law_482 (by decide) ?_
  refine tr_iaddN dL_law_483 ?_
  refine tr_sald dL_law_484 rfl (by omega) (by omega) ?_
  refine tr_aload_n dL_law_485 rfl ?_
  refine tr_iload_n dL_law_486 rfl ?_
  refine tr_iconst (v := nI 3) dL_law_487 (by decide) ?_
  refine tr_iaddN dL_law_488 ?_
  refine tr_sald dL_law_489 rfl (by omega) (by omega) ?_
  -- at 490: .invokevirtual 48
  refine tr_Vi (As := [_, _, _]) dL_law_490 fm_RL_48 rfl rfl (by first | assumption | decide) (by first | assumption | rfl) (Nat.le_of_ble_eq_true rfl) (r_put (hM.frM e3)) (fun v2 μ2 ⟨u1, u2, u3⟩ => ?_)
  refine tr_icmp_eq (tgt := 1234) dL_law_493 (by decide) (fun h1 => ?_) (fun h1 => ?_)
  · exact hn μ2 _ (e2.fqC u3) u2 (hW.kp k_put)
  · exact absurd (e1.trans u1.symm) h1
theorem lc_8 (hi : i + 6 ≤ X.1) (hX : X.1 ≤ 3072) (hC : CI μ σ) (hM : MI μ σ) (hW : WI σ) (hn : ∀ μ' σ', CI μ' σ' → MI μ' σ' → WI σ' → tw X 40 am_kL LQ 1234 [.ref 0, .ref 2, .ref 99, .int (nI i)] [] μ') : tw X 40 am_kL LQ 498 [.ref 0, .ref 2, .ref 99, .int (nI i)] [] μ := by
  refine tr_aload_n dL_law_498 rfl ?_
  refine tr_aload_n dL_law_499 rfl ?_
  refine tr_iload_n dL_law_500 rfl ?_
  refine tr_iconst (v := nI 1) dL_law_501 (by decide) ?_
  refine tr_iaddN dL_law_502 ?_
  refine tr_sald dL_law_503 rfl (by omega) (by omega) ?_
  -- at 504: .invokevirtual 49
  refine tr_Vi (As := [_]) dL_law_504 fm_RL_49 rfl rfl (by first | assumption | decide) (by first | assumption | rfl) (Nat.le_of_ble_eq_true rfl) (f_fault hC) (fun v1 μ1 ⟨e1, e2, e3⟩ => ?_)
  refine tr_aload_n dL_law_507 rfl ?_
  refine tr_aload_n dL_law_508 rfl ?_
  refine tr_iload_n dL_law_509 rfl ?_
  refine tr_iconst (v := nI 1) dL_law_510 (by decide) ?_
  refine tr_iaddN dL_law_511 ?_
  refine tr_sald dL_law_512 rfl (by omega) (by omega) ?_
  -- at 513: .invokevirtual 52
  refine tr_Vi (As := [_]) dL_law_513 fm_RL_52 rfl rfl (by first | assumption | decide) (by first | assumption | rfl) (Nat.le_of_ble_eq_true rfl) (r_fault (hM.frM e3)) (fun v2 μ2 ⟨u1, u2, u3⟩ => ?_)
  refine tr_icmp_eq (tgt := 1234) dL_law_516 (by decide) (fun h1 => ?_) (fun h1 => ?_)
  · exact hn μ2 _ (e2.fqC u3) u2 (hW.kp k_fault)
  · exact absurd (e1.trans u1.symm) h1
theorem lc_9 (hi : i + 6 ≤ X.1) (hX : X.1 ≤ 3072) (hC : CI μ σ) (hM : MI μ σ) (hW : WI σ) (hn : ∀ μ' σ', CI μ' σ' → MI μ' σ' → WI σ' → tw X 40 am_kL LQ 1234 [.ref 0, .ref 2, .ref 99, .int (nI i)] [] μ') : tw X 40 am_kL LQ 521 [.ref 0, .ref 2, .ref 99, .int (nI i)] [] μ := by
  refine tr_aload_n dL_law_521 rfl ?_
  refine tr_aload_n dL_law_522 rfl ?_
  refine tr_iload_n dL_law_523 rfl ?_
  refine tr_iconst (v := nI 1) dL_law_524 (by decide) ?_
  refine tr_iaddN dL_law_525 ?_
  refine tr_sald dL_law_526 rfl (by omega) (by omega) ?_
  -- at 527: .invokevirtual 53
  refine tr_Vi (As := [_]) dL_law_527 fm_RL_53 rfl rfl (by first | assumption | decide) (by first | assumption | rfl) (Nat.le_of_ble_eq_true rfl) (f_board hC) (fun v1 μ1 ⟨e1, e2, e3⟩ => ?_)
  refine tr_aload_n dL_law_530 rfl ?_
  refine tr_aload_n dL_law_531 rfl ?_
  refine tr_iload_n dL_law_532 rfl ?_
  refine tr_iconst (v := nI 1) dL_law_533 (by decide) ?_
  refine tr_iaddN dL_law_534 ?_
  refine tr_sald dL_law_535 rfl (by omega) (by omega) ?_
  -- at 536: .invokevirtual 56
  refine tr_Vi (As := [_]) dL_law_536 fm_RL_56 rfl rfl (by first | assumption | decide) (by first | assumption | rfl) (Nat.le_of_ble_eq_true rfl) (r_board (hM.frM e3)) (fun v2 μ2 ⟨u1, u2, u3⟩ => ?_)
  refine tr_icmp_eq (tgt := 1234) dL_law_539 (by decide) (fun h1 => ?_) (fun h1 => ?_)
  · exact hn μ2 _ (e2.fqC u3) u2 (wi_board hW)
  · exact absurd (e1.trans u1.symm) h1
theorem lc_10 (hi : i + 6 ≤ X.1) (hX : X.1 ≤ 3072) (hC : CI μ σ) (hM : MI μ σ) (hW : WI σ) (hn : ∀ μ' σ', CI μ' σ' → MI μ' σ' → WI σ' → tw X 40 am_kL LQ 1234 [.ref 0, .ref 2, .ref 99, .int (nI i)] [] μ') : tw X 40 am_kL LQ 544 [.ref 0, .ref 2, .ref 99, .int (nI i)] [] μ := by
  refine tr_aload_n dL_law_544 rfl ?_
  refine tr_aload_n dL_law_545 rfl ?_
  refine tr_iload_n dL_law_546 rfl ?_
  refine tr_iconst (v := nI 1) dL_law_547 (by decide) ?_
  refine tr_iaddN dL_law_548 ?_
  refine tr_sald dL_law_549 rfl (by omega) (by omega) ?_
  refine tr_aload_n dL_law_550 rfl ?_
  refine tr_iload_n dL_law_551 rfl ?_
  refine tr_iconst (v := nI 2) dL_law_552 (by decide) ?_
  refine tr_iaddN dL_law_553 ?_
  refine tr_sald dL_law_554 rfl (by omega) (by omega) ?_
  -- at 555: .invokevirtual 57
  refine tr_Vi (As := [_, _]) dL_law_555 fm_RL_57 rfl rfl (by first | assumption | decide) (by first | assumption | rfl) (Nat.le_of_ble_eq_true rfl) (f_drum hC hW) (fun v1 μ1 ⟨e1, e2, e3⟩ => ?_)
  refine tr_aload_n dL_law_558 rfl ?_
  refine tr_aload_n dL_law_559 rfl ?_
  refine tr_iload_n dL_law_560 rfl ?_
  refine tr_iconst (v := nI 1) dL_law_561 (by decide) ?_
  refine tr_iaddN dL_law_562 ?_
  refine tr_sald dL_law_563 rfl (by omega) (by omega) ?_
  refine tr_aload_n dL_law_564 rfl ?_
  refine tr_iload_n dL_law_565 rfl ?_
  refine tr_iconst (v := nI 2) dL_law_566 (by decide) ?_
  refine tr_iaddN dL_law_567 ?_
  refine tr_sald dL_law_568 rfl (by omega) (by omega) ?_
  -- at 569: .invokevirtual 60
  refine tr_Vi (As := [_, _]) dL_law_569 fm_RL_60 rfl rfl (by first | assumption | decide) (by first | assumption | rfl) (Nat.le_of_ble_eq_true rfl) (r_drum (hM.frM e3) hW) (fun v2 μ2 ⟨u1, u2, u3⟩ => ?_)
  refine tr_icmp_eq (tgt := 1234) dL_law_572 (by decide) (fun h1 => ?_) (fun h1 => ?_)
  · exact hn μ2 _ (e2.fqC u3) u2 (hW.kp k_drum)
  · exact absurd (e1.trans u1.symm) h1
theorem lc_11 (hi : i + 6 ≤ X.1) (hX : X.1 ≤ 3072) (hC : CI μ σ) (hM : MI μ σ) (hW : WI σ) (hn : ∀ μ' σ', CI μ' σ' → MI μ' σ' → WI σ' → tw X 40 am_kL LQ 1234 [.ref 0, .ref 2, .ref 99, .int (nI i)] [] μ') : tw X 40 am_kL LQ 577 [.ref 0, .ref 2, .ref 99, .int (nI i)] [] μ := by
  refine tr_aload_n dL_law_577 rfl ?_
  refine tr_aload_n dL_law_578 rfl ?_
  refine tr_iload_n dL_law_579 rfl ?_
  refine tr_iconst (v := nI 1) dL_law_580 (by decide) ?_
  refine tr_iaddN dL_law_581 ?_
  refine tr_sald dL_law_582 rfl (by omega) (by omega) ?_
  refine tr_aload_n dL_law_583 rfl ?_
  refine tr_iload_n dL_law_584 rfl ?_
  refine tr_iconst (v := nI 2) dL_law_585 (by decide) ?_
  refine tr_iaddN dL_law_586 ?_
  refine tr_sald dL_law_587 rfl (by omega) (by omega) ?_
  -- at 588: .invokevirtual 61
  refine tr_Vi (As := [_, _]) dL_law_588 fm_RL_61 rfl rfl (by first | assumption | decide) (by first | assumption | rfl) (Nat.le_of_ble_eq_true rfl) (f_mark hC hW) (fun v1 μ1 ⟨e1, e2, e3⟩ => ?_)
  refine tr_aload_n dL_law_591 rfl ?_
  refine tr_aload_n dL_law_592 rfl ?_
  refine tr_iload_n dL_law_593 rfl ?_
  refine tr_iconst (v := nI 1) dL_law_594 (by decide) ?_
  refine tr_iaddN dL_law_595 ?_
  refine tr_sald dL_law_596 rfl (by omega) (by omega) ?_
  refine tr_aload_n dL_law_597 rfl ?_
  refine tr_iload_n dL_law_598 rfl ?_
  refine tr_iconst (v := nI 2) dL_law_599 (by decide) ?_
  refine tr_iaddN dL_law_600 ?_
  refine tr_sald dL_law_601 rfl (by omega) (by omega) ?_
  -- at 602: .invokevirtual 64
  refine tr_Vi (As := [_, _]) dL_law_602 fm_RL_64 rfl rfl (by first | assumption | decide) (by first | assumption | rfl) (Nat.le_of_ble_eq_true rfl) (r_mark (hM.frM e3) hW) (fun v2 μ2 ⟨u1, u2, u3⟩ => ?_)
  refine tr_icmp_eq (tgt := 1234) dL_law_605 (by decide) (fun h1 => ?_) (fun h1 => ?_)
  · exact hn μ2 _ (e2.fqC u3) u2 (hW.kp k_mark)
  · exact absurd (e1.trans u1.symm) h1
theorem lc_12 (hi : i + 6 ≤ X.1) (hX : X.1 ≤ 3072) (hC : CI μ σ) (hM : MI μ σ) (hW : WI σ) (hn : ∀ μ' σ', CI μ' σ' → MI μ' σ' → WI σ' → tw X 40 am_kL LQ 1234 [.ref 0, .ref 2, .ref 99, .int (nI i)] [] μ') : tw X 40 am_kL LQ 610 [.ref 0, .ref 2, .ref 99, .int (nI i)] [] μ := by
  refine tr_aload_n dL_law_610 rfl ?_
  -- at 611: .invokevirtual 65
  refine tr_Vi (As := []) dL_law_611 fm_RL_65 rfl rfl (by first | assumption | decide) (by first | assumption | rfl) (Nat.le_of_ble_eq_true rfl) (f_tick hC hW) (fun v1 μ1 ⟨e1, e2, e3⟩ => ?_)
  refine tr_aload_n dL_law_614 rfl ?_
  -- at 615: .invokevirtual 69
  refine tr_Vi (As := []) dL_law_615 fm_RL_69 rfl rfl (by first | assumption | decide) (by first | assumption | rfl) (Nat.le_of_ble_eq_true rfl) (r_tick (hM.frM e3) hW) (fun v2 μ2 ⟨u1, u2, u3⟩ => ?_)
  refine tr_icmp_eq (tgt := 1234) dL_law_618 (by decide) (fun h1 => ?_) (fun h1 => ?_)
  · exact hn μ2 _ (e2.fqC u3) u2 (wi_tick hW)
  · exact absurd (e1.trans u1.symm) h1
theorem lc_13 (hi : i + 6 ≤ X.1) (hX : X.1 ≤ 3072) (hC : CI μ σ) (hM : MI μ σ) (hW : WI σ) (hn : ∀ μ' σ', CI μ' σ' → MI μ' σ' → WI σ' → tw X 40 am_kL LQ 1234 [.ref 0, .ref 2, .ref 99, .int (nI i)] [] μ') : tw X 40 am_kL LQ 623 [.ref 0, .ref 2, .ref 99, .int (nI i)] [] μ := by
  refine tr_aload_n dL_law_623 rfl ?_
  refine tr_aload_n dL_law_624 rfl ?_
  refine tr_iload_n dL_law_625 rfl ?_
  refine tr_iconst (v := nI 1) dL_law_626 (by decide) ?_
  refine tr_iaddN dL_law_627 ?_
  refine tr_sald dL_law_628 rfl (by omega) (by omega) ?_
  refine tr_aload_n dL_law_629 rfl ?_
  refine tr_iload_n dL_law_630 rfl ?_
  refine tr_iconst (v := nI 2) dL_law_631 (by decide) ?_
  refine tr_iaddN dL_law_632 ?_
  refine tr_sald dL_law_633 rfl (by omega) (by omega) ?_
  -- at 634: .invokevirtual 70
  refine tr_Vi (As := [_, _]) dL_law_634 fm_RL_70 rfl rfl (by first | assumption | decide) (by first | assumption | rfl) (Nat.le_of_ble_eq_true rfl) (f_aim hC hW) (fun v1 μ1 ⟨e1, e2, e3⟩ => ?_)
  refine tr_aload_n dL_law_637 rfl ?_
  refine tr_aload_n dL_law_638 rfl ?_
  refine tr_iload_n dL_law_639 rfl ?_
  refine tr_iconst (v := nI 1) dL_law_640 (by decide) ?_
  refine tr_iaddN dL_law_641 ?_
  refine tr_sald dL_law_642 rfl (by omega) (by omega) ?_
  refine tr_aload_n dL_law_643 rfl ?_
  refine tr_iload_n dL_law_644 rfl ?_
  refine tr_iconst (v := nI 2) dL_law_645 (by decide) ?_
  refine tr_iaddN dL_law_646 ?_
  refine tr_sald dL_law_647 rfl (by omega) (by omega) ?_
  -- at 648: .invokevirtual 73
  refine tr_Vi (As := [_, _]) dL_law_648 fm_RL_73 rfl rfl (by first | assumption | decide) (by first | assumption | rfl) (Nat.le_of_ble_eq_true rfl) (r_aim (hM.frM e3) hW) (fun v2 μ2 ⟨u1, u2, u3⟩ => ?_)
  refine tr_icmp_eq (tgt := 1234) dL_law_651 (by decide) (fun h1 => ?_) (fun h1 => ?_)
  · exact hn μ2 _ (e2.fqC u3) u2 (wi_aim hW)
  · exact absurd (e1.trans u1.symm) h1
theorem lc_14 (hi : i + 6 ≤ X.1) (hX : X.1 ≤ 3072) (hC : CI μ σ) (hM : MI μ σ) (hW : WI σ) (hn : ∀ μ' σ', CI μ' σ' → MI μ' σ' → WI σ' → tw X 40 am_kL LQ 1234 [.ref 0, .ref 2, .ref 99, .int (nI i)] [] μ') : tw X 40 am_kL LQ 656 [.ref 0, .ref 2, .ref 99, .int (nI i)] [] μ := by
  refine tr_aload_n dL_law_656 rfl ?_
  refine tr_aload_n dL_law_657 rfl ?_
  refine tr_iload_n dL_law_658 rfl ?_
  refine tr_iconst (v := nI 1) dL_law_659 (by decide) ?_
  refine tr_iaddN dL_law_660 ?_
  refine tr_sald dL_law_661 rfl (by omega) (by omega) ?_
  -- at 662: .invokevirtual 74
  refine tr_Vi (As := [_]) dL_law_662 fm_RL_74 rfl rfl (by first | assumption | decide) (by first | assumption | rfl) (Nat.le_of_ble_eq_true rfl) (f_power hC hW) (fun v1 μ1 ⟨e1, e2, e3⟩ => ?_)
  refine tr_aload_n dL_law_665 rfl ?_
  refine tr_aload_n dL_law_666 rfl ?_
  refine tr_iload_n dL_law_667 rfl ?_
  refine tr_iconst (v := nI 1) dL_law_668 (by decide) ?_
  refine tr_iaddN dL_law_669 ?_
  refine tr_sald dL_law_670 rfl (by omega) (by omega) ?_
  -- at 671: .invokevirtual 77
  refine tr_Vi (As := [_]) dL_law_671 fm_RL_77 rfl rfl (by first | assumption | decide) (by first | assumption | rfl) (Nat.le_of_ble_eq_true rfl) (r_power (hM.frM e3) hW) (fun v2 μ2 ⟨u1, u2, u3⟩ => ?_)
  refine tr_icmp_eq (tgt := 1234) dL_law_674 (by decide) (fun h1 => ?_) (fun h1 => ?_)
  · exact hn μ2 _ (e2.fqC u3) u2 (wi_power hW)
  · exact absurd (e1.trans u1.symm) h1
theorem lc_15 (hi : i + 6 ≤ X.1) (hX : X.1 ≤ 3072) (hC : CI μ σ) (hM : MI μ σ) (hW : WI σ) (hn : ∀ μ' σ', CI μ' σ' → MI μ' σ' → WI σ' → tw X 40 am_kL LQ 1234 [.ref 0, .ref 2, .ref 99, .int (nI i)] [] μ') : tw X 40 am_kL LQ 679 [.ref 0, .ref 2, .ref 99, .int (nI i)] [] μ := by
  refine tr_aload_n dL_law_679 rfl ?_
  refine tr_aload_n dL_law_680 rfl ?_
  refine tr_iload_n dL_law_681 rfl ?_
  refine tr_iconst (v := nI 1) dL_law_682 (by decide) ?_
  refine tr_iaddN dL_law_683 ?_
  refine tr_sald dL_law_684 rfl (by omega) (by omega) ?_
  -- at 685: .invokevirtual 78
  refine tr_Vi (As := [_]) dL_law_685 fm_RL_78 rfl rfl (by first | assumption | decide) (by first | assumption | rfl) (Nat.le_of_ble_eq_true rfl) (f_jam hC hW) (fun v1 μ1 ⟨e1, e2, e3⟩ => ?_)
  refine tr_aload_n dL_law_688 rfl ?_
  refine tr_aload_n dL_law_689 rfl ?_
  refine tr_iload_n dL_law_690 rfl ?_
  refine tr_iconst (v := nI 1) dL_law_691 (by decide) ?_
  refine tr_iaddN dL_law_692 ?_
  refine tr_sald dL_law_693 rfl (by omega) (by omega) ?_
  -- at 694: .invokevirtual 81
  refine tr_Vi (As := [_]) dL_law_694 fm_RL_81 rfl rfl (by first | assumption | decide) (by first | assumption | rfl) (Nat.le_of_ble_eq_true rfl) (r_jam (hM.frM e3) hW) (fun v2 μ2 ⟨u1, u2, u3⟩ => ?_)
  refine tr_icmp_eq (tgt := 1234) dL_law_697 (by decide) (fun h1 => ?_) (fun h1 => ?_)
  · exact hn μ2 _ (e2.fqC u3) u2 (wi_jam hW)
  · exact absurd (e1.trans u1.symm) h1
theorem lc_16 (hi : i + 6 ≤ X.1) (hX : X.1 ≤ 3072) (hC : CI μ σ) (hM : MI μ σ) (hW : WI σ) (hn : ∀ μ' σ', CI μ' σ' → MI μ' σ' → WI σ' → tw X 40 am_kL LQ 1234 [.ref 0, .ref 2, .ref 99, .int (nI i)] [] μ') : tw X 40 am_kL LQ 702 [.ref 0, .ref 2, .ref 99, .int (nI i)] [] μ := by
  refine tr_aload_n dL_law_702 rfl ?_
  refine tr_aload_n dL_law_703 rfl ?_
  refine tr_iload_n dL_law_704 rfl ?_
  refine tr_iconst (v := nI 1) dL_law_705 (by decide) ?_
  refine tr_iaddN dL_law_706 ?_
  refine tr_sald dL_law_707 rfl (by omega) (by omega) ?_
  -- at 708: .invokevirtual 82
  refine tr_Vi (As := [_]) dL_law_708 fm_RL_82 rfl rfl (by first | assumption | decide) (by first | assumption | rfl) (Nat.le_of_ble_eq_true rfl) (f_undo hC hW) (fun v1 μ1 ⟨e1, e2, e3⟩ => ?_)
  refine tr_aload_n dL_law_711 rfl ?_
  refine tr_aload_n dL_law_712 rfl ?_
  refine tr_iload_n dL_law_713 rfl ?_
  refine tr_iconst (v := nI 1) dL_law_714 (by decide) ?_
  refine tr_iaddN dL_law_715 ?_
  refine tr_sald dL_law_716 rfl (by omega) (by omega) ?_
  -- at 717: .invokevirtual 85
  refine tr_Vi (As := [_]) dL_law_717 fm_RL_85 rfl rfl (by first | assumption | decide) (by first | assumption | rfl) (Nat.le_of_ble_eq_true rfl) (r_undo (hM.frM e3) hW) (fun v2 μ2 ⟨u1, u2, u3⟩ => ?_)
  refine tr_icmp_eq (tgt := 1234) dL_law_720 (by decide) (fun h1 => ?_) (fun h1 => ?_)
  · exact hn μ2 _ (e2.fqC u3) u2 (wi_undo hW)
  · exact absurd (e1.trans u1.symm) h1
theorem lc_17 (hi : i + 6 ≤ X.1) (hX : X.1 ≤ 3072) (hC : CI μ σ) (hM : MI μ σ) (hW : WI σ) (hn : ∀ μ' σ', CI μ' σ' → MI μ' σ' → WI σ' → tw X 40 am_kL LQ 1234 [.ref 0, .ref 2, .ref 99, .int (nI i)] [] μ') : tw X 40 am_kL LQ 725 [.ref 0, .ref 2, .ref 99, .int (nI i)] [] μ := by
  refine tr_aload_n dL_law_725 rfl ?_
  refine tr_aload_n dL_law_726 rfl ?_
  refine tr_iload_n dL_law_727 rfl ?_
  refine tr_iconst (v := nI 1) dL_law_728 (by decide) ?_
  refine tr_iaddN dL_law_729 ?_
  refine tr_sald dL_law_730 rfl (by omega) (by omega) ?_
  -- at 731: .invokevirtual 86
  refine tr_Vi (As := [_]) dL_law_731 fm_RL_86 rfl rfl (by first | assumption | decide) (by first | assumption | rfl) (Nat.le_of_ble_eq_true rfl) (f_keep hC hW) (fun v1 μ1 ⟨e1, e2, e3⟩ => ?_)
  refine tr_aload_n dL_law_734 rfl ?_
  refine tr_aload_n dL_law_735 rfl ?_
  refine tr_iload_n dL_law_736 rfl ?_
  refine tr_iconst (v := nI 1) dL_law_737 (by decide) ?_
  refine tr_iaddN dL_law_738 ?_
  refine tr_sald dL_law_739 rfl (by omega) (by omega) ?_
  -- at 740: .invokevirtual 89
  refine tr_Vi (As := [_]) dL_law_740 fm_RL_89 rfl rfl (by first | assumption | decide) (by first | assumption | rfl) (Nat.le_of_ble_eq_true rfl) (r_keep (hM.frM e3) hW) (fun v2 μ2 ⟨u1, u2, u3⟩ => ?_)
  refine tr_icmp_eq (tgt := 1234) dL_law_743 (by decide) (fun h1 => ?_) (fun h1 => ?_)
  · exact hn μ2 _ (e2.fqC u3) u2 (wi_keep hW)
  · exact absurd (e1.trans u1.symm) h1
theorem lc_18 (hi : i + 6 ≤ X.1) (hX : X.1 ≤ 3072) (hC : CI μ σ) (hM : MI μ σ) (hW : WI σ) (hn : ∀ μ' σ', CI μ' σ' → MI μ' σ' → WI σ' → tw X 40 am_kL LQ 1234 [.ref 0, .ref 2, .ref 99, .int (nI i)] [] μ') : tw X 40 am_kL LQ 748 [.ref 0, .ref 2, .ref 99, .int (nI i)] [] μ := by
  refine tr_aload_n dL_law_748 rfl ?_
  refine tr_aload_n dL_law_749 rfl ?_
  refine tr_iload_n dL_law_750 rfl ?_
  refine tr_iconst (v := nI 1) dL_law_751 (by decide) ?_
  refine tr_iaddN dL_law_752 ?_
  refine tr_sald dL_law_753 rfl (by omega) (by omega) ?_
  -- at 754: .invokevirtual 90
  refine tr_Vi (As := [_]) dL_law_754 fm_RL_90 rfl rfl (by first | assumption | decide) (by first | assumption | rfl) (Nat.le_of_ble_eq_true rfl) (f_on hC hW) (fun v1 μ1 ⟨e1, e2, e3⟩ => ?_)
  refine tr_aload_n dL_law_757 rfl ?_
  refine tr_aload_n dL_law_758 rfl ?_
  refine tr_iload_n dL_law_759 rfl ?_
  refine tr_iconst (v := nI 1) dL_law_760 (by decide) ?_
  refine tr_iaddN dL_law_761 ?_
  refine tr_sald dL_law_762 rfl (by omega) (by omega) ?_
  -- at 763: .invokevirtual 93
  refine tr_Vi (As := [_]) dL_law_763 fm_RL_93 rfl rfl (by first | assumption | decide) (by first | assumption | rfl) (Nat.le_of_ble_eq_true rfl) (r_on (hM.frM e3) hW) (fun v2 μ2 ⟨u1, u2, u3⟩ => ?_)
  refine tr_icmp_eq (tgt := 1234) dL_law_766 (by decide) (fun h1 => ?_) (fun h1 => ?_)
  · exact hn μ2 _ (e2.fqC u3) u2 (wi_on hW)
  · exact absurd (e1.trans u1.symm) h1
theorem lc_19 (hi : i + 6 ≤ X.1) (hX : X.1 ≤ 3072) (hC : CI μ σ) (hM : MI μ σ) (hW : WI σ) (hn : ∀ μ' σ', CI μ' σ' → MI μ' σ' → WI σ' → tw X 40 am_kL LQ 1234 [.ref 0, .ref 2, .ref 99, .int (nI i)] [] μ') : tw X 40 am_kL LQ 771 [.ref 0, .ref 2, .ref 99, .int (nI i)] [] μ := by
  refine tr_aload_n dL_law_771 rfl ?_
  refine tr_aload_n dL_law_772 rfl ?_
  refine tr_iload_n dL_law_773 rfl ?_
  refine tr_iconst (v := nI 1) dL_law_774 (by decide) ?_
  refine tr_iaddN dL_law_775 ?_
  refine tr_sald dL_law_776 rfl (by omega) (by omega) ?_
  -- at 777: .invokevirtual 94
  refine tr_Vi (As := [_]) dL_law_777 fm_RL_94 rfl rfl (by first | assumption | decide) (by first | assumption | rfl) (Nat.le_of_ble_eq_true rfl) (f_later hC hW) (fun v1 μ1 ⟨e1, e2, e3⟩ => ?_)
  refine tr_aload_n dL_law_780 rfl ?_
  refine tr_aload_n dL_law_781 rfl ?_
  refine tr_iload_n dL_law_782 rfl ?_
  refine tr_iconst (v := nI 1) dL_law_783 (by decide) ?_
  refine tr_iaddN dL_law_784 ?_
  refine tr_sald dL_law_785 rfl (by omega) (by omega) ?_
  -- at 786: .invokevirtual 97
  refine tr_Vi (As := [_]) dL_law_786 fm_RL_97 rfl rfl (by first | assumption | decide) (by first | assumption | rfl) (Nat.le_of_ble_eq_true rfl) (r_later (hM.frM e3) hW) (fun v2 μ2 ⟨u1, u2, u3⟩ => ?_)
  refine tr_icmp_eq (tgt := 1234) dL_law_789 (by decide) (fun h1 => ?_) (fun h1 => ?_)
  · exact hn μ2 _ (e2.fqC u3) u2 (hW.kp k_later)
  · exact absurd (e1.trans u1.symm) h1
theorem lc_20 (hi : i + 6 ≤ X.1) (hX : X.1 ≤ 3072) (hC : CI μ σ) (hM : MI μ σ) (hW : WI σ) (hn : ∀ μ' σ', CI μ' σ' → MI μ' σ' → WI σ' → tw X 40 am_kL LQ 1234 [.ref 0, .ref 2, .ref 99, .int (nI i)] [] μ') : tw X 40 am_kL LQ 794 [.ref 0, .ref 2, .ref 99, .int (nI i)] [] μ := by
  refine tr_aload_n dL_law_794 rfl ?_
  -- at 795: .invokevirtual 98
  refine tr_Vi (As := []) dL_law_795 fm_RL_98 rfl rfl (by first | assumption | decide) (by first | assumption | rfl) (Nat.le_of_ble_eq_true rfl) (f_ends hC hW) (fun v1 μ1 ⟨e1, e2, e3⟩ => ?_)
  refine tr_aload_n dL_law_798 rfl ?_
  -- at 799: .invokevirtual 101
  refine tr_Vi (As := []) dL_law_799 fm_RL_101 rfl rfl (by first | assumption | decide) (by first | assumption | rfl) (Nat.le_of_ble_eq_true rfl) (r_ends (hM.frM e3) hW) (fun v2 μ2 ⟨u1, u2, u3⟩ => ?_)
  refine tr_icmp_eq (tgt := 1234) dL_law_802 (by decide) (fun h1 => ?_) (fun h1 => ?_)
  · exact hn μ2 _ (e2.fqC u3) u2 (hW.kp k_ends)
  · exact absurd (e1.trans u1.symm) h1
theorem lc_21 (hi : i + 6 ≤ X.1) (hX : X.1 ≤ 3072) (hC : CI μ σ) (hM : MI μ σ) (hW : WI σ) (hn : ∀ μ' σ', CI μ' σ' → MI μ' σ' → WI σ' → tw X 40 am_kL LQ 1234 [.ref 0, .ref 2, .ref 99, .int (nI i)] [] μ') : tw X 40 am_kL LQ 807 [.ref 0, .ref 2, .ref 99, .int (nI i)] [] μ := by
  refine tr_aload_n dL_law_807 rfl ?_
  -- at 808: .invokevirtual 102
  refine tr_Vi (As := []) dL_law_808 fm_RL_102 rfl rfl (by first | assumption | decide) (by first | assumption | rfl) (Nat.le_of_ble_eq_true rfl) (f_passes hC hW) (fun v1 μ1 ⟨e1, e2, e3⟩ => ?_)
  refine tr_aload_n dL_law_811 rfl ?_
  -- at 812: .invokevirtual 105
  refine tr_Vi (As := []) dL_law_812 fm_RL_105 rfl rfl (by first | assumption | decide) (by first | assumption | rfl) (Nat.le_of_ble_eq_true rfl) (r_passes (hM.frM e3) hW) (fun v2 μ2 ⟨u1, u2, u3⟩ => ?_)
  refine tr_icmp_eq (tgt := 1234) dL_law_815 (by decide) (fun h1 => ?_) (fun h1 => ?_)
  · exact hn μ2 _ (e2.fqC u3) u2 (hW.kp k_passes)
  · exact absurd (e1.trans u1.symm) h1
theorem lc_22 (hi : i + 6 ≤ X.1) (hX : X.1 ≤ 3072) (hC : CI μ σ) (hM : MI μ σ) (hW : WI σ) (hn : ∀ μ' σ', CI μ' σ' → MI μ' σ' → WI σ' → tw X 40 am_kL LQ 1234 [.ref 0, .ref 2, .ref 99, .int (nI i)] [] μ') : tw X 40 am_kL LQ 820 [.ref 0, .ref 2, .ref 99, .int (nI i)] [] μ := by
  refine tr_aload_n dL_law_820 rfl ?_
  -- at 821: .invokevirtual 106
  refine tr_Vi (As := []) dL_law_821 fm_RL_106 rfl rfl (by first | assumption | decide) (by first | assumption | rfl) (Nat.le_of_ble_eq_true rfl) (f_least hC hW) (fun v1 μ1 ⟨e1, e2, e3⟩ => ?_)
  refine tr_aload_n dL_law_824 rfl ?_
  -- at 825: .invokevirtual 109
  refine tr_Vi (As := []) dL_law_825 fm_RL_109 rfl rfl (by first | assumption | decide) (by first | assumption | rfl) (Nat.le_of_ble_eq_true rfl) (r_least (hM.frM e3) hW) (fun v2 μ2 ⟨u1, u2, u3⟩ => ?_)
  refine tr_icmp_eq (tgt := 1234) dL_law_828 (by decide) (fun h1 => ?_) (fun h1 => ?_)
  · exact hn μ2 _ (e2.fqC u3) u2 (hW.kp k_least)
  · exact absurd (e1.trans u1.symm) h1
theorem lc_23 (hi : i + 6 ≤ X.1) (hX : X.1 ≤ 3072) (hC : CI μ σ) (hM : MI μ σ) (hW : WI σ) (hn : ∀ μ' σ', CI μ' σ' → MI μ' σ' → WI σ' → tw X 40 am_kL LQ 1234 [.ref 0, .ref 2, .ref 99, .int (nI i)] [] μ') : tw X 40 am_kL LQ 833 [.ref 0, .ref 2, .ref 99, .int (nI i)] [] μ := by
  refine tr_aload_n dL_law_833 rfl ?_
  refine tr_aload_n dL_law_834 rfl ?_
  refine tr_iload_n dL_law_835 rfl ?_
  refine tr_iconst (v := nI 1) dL_law_836 (by decide) ?_
  refine tr_iaddN dL_law_837 ?_
  refine tr_sald dL_law_838 rfl (by omega) (by omega) ?_
  -- at 839: .invokevirtual 110
  refine tr_Vi (As := [_]) dL_law_839 fm_RL_110 rfl rfl (by first | assumption | decide) (by first | assumption | rfl) (Nat.le_of_ble_eq_true rfl) (f_soonest hC hW) (fun v1 μ1 ⟨e1, e2, e3⟩ => ?_)
  refine tr_aload_n dL_law_842 rfl ?_
  refine tr_aload_n dL_law_843 rfl ?_
  refine tr_iload_n dL_law_844 rfl ?_
  refine tr_iconst (v := nI 1) dL_law_845 (by decide) ?_
  refine tr_iaddN dL_law_846 ?_
  refine tr_sald dL_law_847 rfl (by omega) (by omega) ?_
  -- at 848: .invokevirtual 113
  refine tr_Vi (As := [_]) dL_law_848 fm_RL_113 rfl rfl (by first | assumption | decide) (by first | assumption | rfl) (Nat.le_of_ble_eq_true rfl) (r_soonest (hM.frM e3) hW) (fun v2 μ2 ⟨u1, u2, u3⟩ => ?_)
  refine tr_icmp_eq (tgt := 1234) dL_law_851 (by decide) (fun h1 => ?_) (fun h1 => ?_)
  · exact hn μ2 _ (e2.fqC u3) u2 (hW.kp k_soonest)
  · exact absurd (e1.trans u1.symm) h1
theorem lc_24 (hi : i + 6 ≤ X.1) (hX : X.1 ≤ 3072) (hC : CI μ σ) (hM : MI μ σ) (hW : WI σ) (hn : ∀ μ' σ', CI μ' σ' → MI μ' σ' → WI σ' → tw X 40 am_kL LQ 1234 [.ref 0, .ref 2, .ref 99, .int (nI i)] [] μ') : tw X 40 am_kL LQ 856 [.ref 0, .ref 2, .ref 99, .int (nI i)] [] μ := by
  refine tr_aload_n dL_law_856 rfl ?_
  refine tr_aload_n dL_law_857 rfl ?_
  refine tr_iload_n dL_law_858 rfl ?_
  refine tr_iconst (v := nI 1) dL_law_859 (by decide) ?_
  refine tr_iaddN dL_law_860 ?_
  refine tr_sald dL_law_861 rfl (by omega) (by omega) ?_
  refine tr_aload_n dL_law_862 rfl ?_
  refine tr_iload_n dL_law_863 rfl ?_
  refine tr_iconst (v := nI 2) dL_law_864 (by decide) ?_
  refine tr_iaddN dL_law_865 ?_
  refine tr_sald dL_law_866 rfl (by omega) (by omega) ?_
  -- at 867: .invokevirtual 114
  refine tr_Vi (As := [_, _]) dL_law_867 fm_RL_114 rfl rfl (by first | assumption | decide) (by first | assumption | rfl) (Nat.le_of_ble_eq_true rfl) (f_order hC hW) (fun v1 μ1 ⟨e1, e2, e3⟩ => ?_)
  refine tr_aload_n dL_law_870 rfl ?_
  refine tr_aload_n dL_law_871 rfl ?_
  refine tr_iload_n dL_law_872 rfl ?_
  refine tr_iconst (v := nI 1) dL_law_873 (by decide) ?_
  refine tr_iaddN dL_law_874 ?_
  refine tr_sald dL_law_875 rfl (by omega) (by omega) ?_
  refine tr_aload_n dL_law_876 rfl ?_
  refine tr_iload_n dL_law_877 rfl ?_
  refine tr_iconst (v := nI 2) dL_law_878 (by decide) ?_
  refine tr_iaddN dL_law_879 ?_
  refine tr_sald dL_law_880 rfl (by omega) (by omega) ?_
  -- at 881: .invokevirtual 117
  refine tr_Vi (As := [_, _]) dL_law_881 fm_RL_117 rfl rfl (by first | assumption | decide) (by first | assumption | rfl) (Nat.le_of_ble_eq_true rfl) (r_order (hM.frM e3) hW) (fun v2 μ2 ⟨u1, u2, u3⟩ => ?_)
  refine tr_icmp_eq (tgt := 1234) dL_law_884 (by decide) (fun h1 => ?_) (fun h1 => ?_)
  · exact hn μ2 _ (e2.fqC u3) u2 (hW.kp k_order)
  · exact absurd (e1.trans u1.symm) h1
theorem lc_25 (hi : i + 6 ≤ X.1) (hX : X.1 ≤ 3072) (hC : CI μ σ) (hM : MI μ σ) (hW : WI σ) (hn : ∀ μ' σ', CI μ' σ' → MI μ' σ' → WI σ' → tw X 40 am_kL LQ 1234 [.ref 0, .ref 2, .ref 99, .int (nI i)] [] μ') : tw X 40 am_kL LQ 889 [.ref 0, .ref 2, .ref 99, .int (nI i)] [] μ := by
  refine tr_aload_n dL_law_889 rfl ?_
  refine tr_aload_n dL_law_890 rfl ?_
  refine tr_iload_n dL_law_891 rfl ?_
  refine tr_iconst (v := nI 1) dL_law_892 (by decide) ?_
  refine tr_iaddN dL_law_893 ?_
  refine tr_sald dL_law_894 rfl (by omega) (by omega) ?_
  refine tr_aload_n dL_law_895 rfl ?_
  refine tr_iload_n dL_law_896 rfl ?_
  refine tr_iconst (v := nI 2) dL_law_897 (by decide) ?_
  refine tr_iaddN dL_law_898 ?_
  refine tr_sald dL_law_899 rfl (by omega) (by omega) ?_
  -- at 900: .invokevirtual 118
  refine tr_Vi (As := [_, _]) dL_law_900 fm_RL_118 rfl rfl (by first | assumption | decide) (by first | assumption | rfl) (Nat.le_of_ble_eq_true rfl) (f_kinds hC hW) (fun v1 μ1 ⟨e1, e2, e3⟩ => ?_)
  refine tr_aload_n dL_law_903 rfl ?_
  refine tr_aload_n dL_law_904 rfl ?_
  refine tr_iload_n dL_law_905 rfl ?_
  refine tr_iconst (v := nI 1) dL_law_906 (by decide) ?_
  refine tr_iaddN dL_law_907 ?_
  refine tr_sald dL_law_908 rfl (by omega) (by omega) ?_
  refine tr_aload_n dL_law_909 rfl ?_
  refine tr_iload_n dL_law_910 rfl ?_
  refine tr_iconst (v := nI 2) dL_law_911 (by decide) ?_
  refine tr_iaddN dL_law_912 ?_
  refine tr_sald dL_law_913 rfl (by omega) (by omega) ?_
  -- at 914: .invokevirtual 121
  refine tr_Vi (As := [_, _]) dL_law_914 fm_RL_121 rfl rfl (by first | assumption | decide) (by first | assumption | rfl) (Nat.le_of_ble_eq_true rfl) (r_kinds (hM.frM e3) hW) (fun v2 μ2 ⟨u1, u2, u3⟩ => ?_)
  refine tr_icmp_eq (tgt := 1234) dL_law_917 (by decide) (fun h1 => ?_) (fun h1 => ?_)
  · exact hn μ2 _ (e2.fqC u3) u2 (hW.kp k_kinds)
  · exact absurd (e1.trans u1.symm) h1
theorem lc_26 (hi : i + 6 ≤ X.1) (hX : X.1 ≤ 3072) (hC : CI μ σ) (hM : MI μ σ) (hW : WI σ) (hn : ∀ μ' σ', CI μ' σ' → MI μ' σ' → WI σ' → tw X 40 am_kL LQ 1234 [.ref 0, .ref 2, .ref 99, .int (nI i)] [] μ') : tw X 40 am_kL LQ 922 [.ref 0, .ref 2, .ref 99, .int (nI i)] [] μ := by
  refine tr_aload_n dL_law_922 rfl ?_
  refine tr_aload_n dL_law_923 rfl ?_
  refine tr_iload_n dL_law_924 rfl ?_
  refine tr_iconst (v := nI 1) dL_law_925 (by decide) ?_
  refine tr_iaddN dL_law_926 ?_
  refine tr_sald dL_law_927 rfl (by omega) (by omega) ?_
  refine tr_aload_n dL_law_928 rfl ?_
  refine tr_iload_n dL_law_929 rfl ?_
  refine tr_iconst (v := nI 2) dL_law_930 (by decide) ?_
  refine tr_iaddN dL_law_931 ?_
  refine tr_sald dL_law_932 rfl (by omega) (by omega) ?_
  -- at 933: .invokevirtual 122
  refine tr_Vi (As := [_, _]) dL_law_933 fm_RL_122 rfl rfl (by first | assumption | decide) (by first | assumption | rfl) (Nat.le_of_ble_eq_true rfl) (f_marks hC hW) (fun v1 μ1 ⟨e1, e2, e3⟩ => ?_)
  refine tr_aload_n dL_law_936 rfl ?_
  refine tr_aload_n dL_law_937 rfl ?_
  refine tr_iload_n dL_law_938 rfl ?_
  refine tr_iconst (v := nI 1) dL_law_939 (by decide) ?_
  refine tr_iaddN dL_law_940 ?_
  refine tr_sald dL_law_941 rfl (by omega) (by omega) ?_
  refine tr_aload_n dL_law_942 rfl ?_
  refine tr_iload_n dL_law_943 rfl ?_
  refine tr_iconst (v := nI 2) dL_law_944 (by decide) ?_
  refine tr_iaddN dL_law_945 ?_
  refine tr_sald dL_law_946 rfl (by omega) (by omega) ?_
  -- at 947: .invokevirtual 125
  refine tr_Vi (As := [_, _]) dL_law_947 fm_RL_125 rfl rfl (by first | assumption | decide) (by first | assumption | rfl) (Nat.le_of_ble_eq_true rfl) (r_marks (hM.frM e3) hW) (fun v2 μ2 ⟨u1, u2, u3⟩ => ?_)
  refine tr_icmp_eq (tgt := 1234) dL_law_950 (by decide) (fun h1 => ?_) (fun h1 => ?_)
  · exact hn μ2 _ (e2.fqC u3) u2 (hW.kp k_marks)
  · exact absurd (e1.trans u1.symm) h1
theorem lc_27 (hi : i + 6 ≤ X.1) (hX : X.1 ≤ 3072) (hC : CI μ σ) (hM : MI μ σ) (hW : WI σ) (hn : ∀ μ' σ', CI μ' σ' → MI μ' σ' → WI σ' → tw X 40 am_kL LQ 1234 [.ref 0, .ref 2, .ref 99, .int (nI i)] [] μ') : tw X 40 am_kL LQ 955 [.ref 0, .ref 2, .ref 99, .int (nI i)] [] μ := by
  refine tr_aload_n dL_law_955 rfl ?_
  refine tr_aload_n dL_law_956 rfl ?_
  refine tr_iload_n dL_law_957 rfl ?_
  refine tr_iconst (v := nI 1) dL_law_958 (by decide) ?_
  refine tr_iaddN dL_law_959 ?_
  refine tr_sald dL_law_960 rfl (by omega) (by omega) ?_
  refine tr_aload_n dL_law_961 rfl ?_
  refine tr_iload_n dL_law_962 rfl ?_
  refine tr_iconst (v := nI 2) dL_law_963 (by decide) ?_
  refine tr_iaddN dL_law_964 ?_
  refine tr_sald dL_law_965 rfl (by omega) (by omega) ?_
  -- at 966: .invokevirtual 126
  refine tr_Vi (As := [_, _]) dL_law_966 fm_RL_126 rfl rfl (by first | assumption | decide) (by first | assumption | rfl) (Nat.le_of_ble_eq_true rfl) (f_test hC hW) (fun v1 μ1 ⟨e1, e2, e3⟩ => ?_)
  refine tr_aload_n dL_law_969 rfl ?_
  refine tr_aload_n dL_law_970 rfl ?_
  refine tr_iload_n dL_law_971 rfl ?_
  refine tr_iconst (v := nI 1) dL_law_972 (by decide) ?_
  refine tr_iaddN dL_law_973 ?_
  refine tr_sald dL_law_974 rfl (by omega) (by omega) ?_
  refine tr_aload_n dL_law_975 rfl ?_
  refine tr_iload_n dL_law_976 rfl ?_
  refine tr_iconst (v := nI 2) dL_law_977 (by decide) ?_
  refine tr_iaddN dL_law_978 ?_
  refine tr_sald dL_law_979 rfl (by omega) (by omega) ?_
  -- at 980: .invokevirtual 129
  refine tr_Vi (As := [_, _]) dL_law_980 fm_RL_129 rfl rfl (by first | assumption | decide) (by first | assumption | rfl) (Nat.le_of_ble_eq_true rfl) (r_test (hM.frM e3) hW) (fun v2 μ2 ⟨u1, u2, u3⟩ => ?_)
  refine tr_icmp_eq (tgt := 1234) dL_law_983 (by decide) (fun h1 => ?_) (fun h1 => ?_)
  · exact hn μ2 _ (e2.fqC u3) u2 (hW.kp k_test)
  · exact absurd (e1.trans u1.symm) h1
theorem lc_28 (hi : i + 6 ≤ X.1) (hX : X.1 ≤ 3072) (hC : CI μ σ) (hM : MI μ σ) (hW : WI σ) (hn : ∀ μ' σ', CI μ' σ' → MI μ' σ' → WI σ' → tw X 40 am_kL LQ 1234 [.ref 0, .ref 2, .ref 99, .int (nI i)] [] μ') : tw X 40 am_kL LQ 988 [.ref 0, .ref 2, .ref 99, .int (nI i)] [] μ := by
  refine tr_aload_n dL_law_988 rfl ?_
  refine tr_aload_n dL_law_989 rfl ?_
  refine tr_iload_n dL_law_990 rfl ?_
  refine tr_iconst (v := nI 1) dL_law_991 (by decide) ?_
  refine tr_iaddN dL_law_992 ?_
  refine tr_sald dL_law_993 rfl (by omega) (by omega) ?_
  -- at 994: .invokevirtual 130
  refine tr_Vi (As := [_]) dL_law_994 fm_RL_130 rfl rfl (by first | assumption | decide) (by first | assumption | rfl) (Nat.le_of_ble_eq_true rfl) (f_duel hC hW) (fun v1 μ1 ⟨e1, e2, e3⟩ => ?_)
  refine tr_aload_n dL_law_997 rfl ?_
  refine tr_aload_n dL_law_998 rfl ?_
  refine tr_iload_n dL_law_999 rfl ?_
  refine tr_iconst (v := nI 1) dL_law_1000 (by decide) ?_
  refine tr_iaddN dL_law_1001 ?_
  refine tr_sald dL_law_1002 rfl (by omega) (by omega) ?_
  -- at 1003: .invokevirtual 133
  refine tr_Vi (As := [_]) dL_law_1003 fm_RL_133 rfl rfl (by first | assumption | decide) (by first | assumption | rfl) (Nat.le_of_ble_eq_true rfl) (r_duel (hM.frM e3) hW) (fun v2 μ2 ⟨u1, u2, u3⟩ => ?_)
  refine tr_icmp_eq (tgt := 1234) dL_law_1006 (by decide) (fun h1 => ?_) (fun h1 => ?_)
  · exact hn μ2 _ (e2.fqC u3) u2 (hW.kp k_duel)
  · exact absurd (e1.trans u1.symm) h1
theorem lc_29 (hi : i + 6 ≤ X.1) (hX : X.1 ≤ 3072) (hC : CI μ σ) (hM : MI μ σ) (hW : WI σ) (hn : ∀ μ' σ', CI μ' σ' → MI μ' σ' → WI σ' → tw X 40 am_kL LQ 1234 [.ref 0, .ref 2, .ref 99, .int (nI i)] [] μ') : tw X 40 am_kL LQ 1011 [.ref 0, .ref 2, .ref 99, .int (nI i)] [] μ := by
  refine tr_aload_n dL_law_1011 rfl ?_
  refine tr_aload_n dL_law_1012 rfl ?_
  refine tr_iload_n dL_law_1013 rfl ?_
  refine tr_iconst (v := nI 1) dL_law_1014 (by decide) ?_
  refine tr_iaddN dL_law_1015 ?_
  refine tr_sald dL_law_1016 rfl (by omega) (by omega) ?_
  refine tr_aload_n dL_law_1017 rfl ?_
  refine tr_iload_n dL_law_1018 rfl ?_
  refine tr_iconst (v := nI 2) dL_law_1019 (by decide) ?_
  refine tr_iaddN dL_law_1020 ?_
  refine tr_sald dL_law_1021 rfl (by omega) (by omega) ?_
  refine tr_aload_n dL_law_1022 rfl ?_
  refine tr_iload_n dL_law_1023 rfl ?_
  refine tr_iconst (v := nI 3) dL_law_1024 (by decide) ?_
  refine tr_iaddN dL_law_1025 ?_
  refine tr_sald dL_law_1026 rfl (by omega) (by omega) ?_
  -- at 1027: .invokevirtual 134
  refine tr_Vi (As := [_, _, _]) dL_law_1027 fm_RL_134 rfl rfl (by first | assumption | decide) (by first | assumption | rfl) (Nat.le_of_ble_eq_true rfl) (f_odds hC hW) (fun v1 μ1 ⟨e1, e2, e3⟩ => ?_)
  refine tr_aload_n dL_law_1030 rfl ?_
  refine tr_aload_n dL_law_1031 rfl ?_
  refine tr_iload_n dL_law_1032 rfl ?_
  refine tr_iconst (v := nI 1) dL_law_1033 (by decide) ?_
  refine tr_iaddN dL_law_1034 ?_
  refine tr_sald dL_law_1035 rfl (by omega) (by omega) ?_
  refine tr_aload_n dL_law_1036 rfl ?_
  refine tr_iload_n dL_law_1037 rfl ?_
  refine tr_iconst (v := nI 2) dL_law_1038 (by decide) ?_
  refine tr_iaddN dL_law_1039 ?_
  refine tr_sald dL_law_1040 rfl (by omega) (by omega) ?_
  refine tr_aload_n dL_law_1041 rfl ?_
  refine tr_iload_n dL_law_1042 rfl ?_
  refine tr_iconst (v := nI 3) dL_law_1043 (by decide) ?_
  refine tr_iaddN dL_law_1044 ?_
  refine tr_sald dL_law_1045 rfl (by omega) (by omega) ?_
  -- at 1046: .invokevirtual 137
  refine tr_Vi (As := [_, _, _]) dL_law_1046 fm_RL_137 rfl rfl (by first | assumption | decide) (by first | assumption | rfl) (Nat.le_of_ble_eq_true rfl) (r_odds (hM.frM e3) hW) (fun v2 μ2 ⟨u1, u2, u3⟩ => ?_)
  refine tr_icmp_eq (tgt := 1234) dL_law_1049 (by decide) (fun h1 => ?_) (fun h1 => ?_)
  · exact hn μ2 _ (e2.fqC u3) u2 (hW.kp k_odds)
  · exact absurd (e1.trans u1.symm) h1
theorem lc_30 (hi : i + 6 ≤ X.1) (hX : X.1 ≤ 3072) (hC : CI μ σ) (hM : MI μ σ) (hW : WI σ) (hn : ∀ μ' σ', CI μ' σ' → MI μ' σ' → WI σ' → tw X 40 am_kL LQ 1234 [.ref 0, .ref 2, .ref 99, .int (nI i)] [] μ') : tw X 40 am_kL LQ 1054 [.ref 0, .ref 2, .ref 99, .int (nI i)] [] μ := by
  refine tr_aload_n dL_law_1054 rfl ?_
  refine tr_aload_n dL_law_1055 rfl ?_
  refine tr_iload_n dL_law_1056 rfl ?_
  refine tr_iconst (v := nI 1) dL_law_1057 (by decide) ?_
  refine tr_iaddN dL_law_1058 ?_
  refine tr_sald dL_law_1059 rfl (by omega) (by omega) ?_
  refine tr_aload_n dL_law_1060 rfl ?_
  refine tr_iload_n dL_law_1061 rfl ?_
  refine tr_iconst (v := nI 2) dL_law_1062 (by decide) ?_
  refine tr_iaddN dL_law_1063 ?_
  refine tr_sald dL_law_1064 rfl (by omega) (by omega) ?_
  -- at 1065: .invokevirtual 138
  refine tr_Vi (As := [_, _]) dL_law_1065 fm_RL_138 rfl rfl (by first | assumption | decide) (by first | assumption | rfl) (Nat.le_of_ble_eq_true rfl) (f_mid hC hW) (fun v1 μ1 ⟨e1, e2, e3⟩ => ?_)
  refine tr_aload_n dL_law_1068 rfl ?_
  refine tr_aload_n dL_law_1069 rfl ?_
  refine tr_iload_n dL_law_1070 rfl ?_
  refine tr_iconst (v := nI 1) dL_law_1071 (by decide) ?_
  refine tr_iaddN dL_law_1072 ?_
  refine tr_sald dL_law_1073 rfl (by omega) (by omega) ?_
  refine tr_aload_n dL_law_1074 rfl ?_
  refine tr_iload_n dL_law_1075 rfl ?_
  refine tr_iconst (v := nI 2) dL_law_1076 (by decide) ?_
  refine tr_iaddN dL_law_1077 ?_
  refine tr_sald dL_law_1078 rfl (by omega) (by omega) ?_
  -- at 1079: .invokevirtual 141
  refine tr_Vi (As := [_, _]) dL_law_1079 fm_RL_141 rfl rfl (by first | assumption | decide) (by first | assumption | rfl) (Nat.le_of_ble_eq_true rfl) (r_mid (hM.frM e3) hW) (fun v2 μ2 ⟨u1, u2, u3⟩ => ?_)
  refine tr_icmp_eq (tgt := 1234) dL_law_1082 (by decide) (fun h1 => ?_) (fun h1 => ?_)
  · exact hn μ2 _ (e2.fqC u3) u2 (hW.kp k_mid)
  · exact absurd (e1.trans u1.symm) h1
theorem lc_31 (hi : i + 6 ≤ X.1) (hX : X.1 ≤ 3072) (hC : CI μ σ) (hM : MI μ σ) (hW : WI σ) (hn : ∀ μ' σ', CI μ' σ' → MI μ' σ' → WI σ' → tw X 40 am_kL LQ 1234 [.ref 0, .ref 2, .ref 99, .int (nI i)] [] μ') : tw X 40 am_kL LQ 1087 [.ref 0, .ref 2, .ref 99, .int (nI i)] [] μ := by
  refine tr_aload_n dL_law_1087 rfl ?_
  refine tr_aload_n dL_law_1088 rfl ?_
  refine tr_iload_n dL_law_1089 rfl ?_
  refine tr_iconst (v := nI 1) dL_law_1090 (by decide) ?_
  refine tr_iaddN dL_law_1091 ?_
  refine tr_sald dL_law_1092 rfl (by omega) (by omega) ?_
  refine tr_aload_n dL_law_1093 rfl ?_
  refine tr_iload_n dL_law_1094 rfl ?_
  refine tr_iconst (v := nI 2) dL_law_1095 (by decide) ?_
  refine tr_iaddN dL_law_1096 ?_
  refine tr_sald dL_law_1097 rfl (by omega) (by omega) ?_
  -- at 1098: .invokevirtual 142
  refine tr_Vi (As := [_, _]) dL_law_1098 fm_RL_142 rfl rfl (by first | assumption | decide) (by first | assumption | rfl) (Nat.le_of_ble_eq_true rfl) (f_lots hC hW) (fun v1 μ1 ⟨e1, e2, e3⟩ => ?_)
  refine tr_aload_n dL_law_1101 rfl ?_
  refine tr_aload_n dL_law_1102 rfl ?_
  refine tr_iload_n dL_law_1103 rfl ?_
  refine tr_iconst (v := nI 1) dL_law_1104 (by decide) ?_
  refine tr_iaddN dL_law_1105 ?_
  refine tr_sald dL_law_1106 rfl (by omega) (by omega) ?_
  refine tr_aload_n dL_law_1107 rfl ?_
  refine tr_iload_n dL_law_1108 rfl ?_
  refine tr_iconst (v := nI 2) dL_law_1109 (by decide) ?_
  refine tr_iaddN dL_law_1110 ?_
  refine tr_sald dL_law_1111 rfl (by omega) (by omega) ?_
  -- at 1112: .invokevirtual 145
  refine tr_Vi (As := [_, _]) dL_law_1112 fm_RL_145 rfl rfl (by first | assumption | decide) (by first | assumption | rfl) (Nat.le_of_ble_eq_true rfl) (r_lots (hM.frM e3) hW) (fun v2 μ2 ⟨u1, u2, u3⟩ => ?_)
  refine tr_icmp_eq (tgt := 1234) dL_law_1115 (by decide) (fun h1 => ?_) (fun h1 => ?_)
  · exact hn μ2 _ (e2.fqC u3) u2 (wi_lots hW)
  · exact absurd (e1.trans u1.symm) h1
theorem lc_32 (hi : i + 6 ≤ X.1) (hX : X.1 ≤ 3072) (hC : CI μ σ) (hM : MI μ σ) (hW : WI σ) (hn : ∀ μ' σ', CI μ' σ' → MI μ' σ' → WI σ' → tw X 40 am_kL LQ 1234 [.ref 0, .ref 2, .ref 99, .int (nI i)] [] μ') : tw X 40 am_kL LQ 1120 [.ref 0, .ref 2, .ref 99, .int (nI i)] [] μ := by
  refine tr_aload_n dL_law_1120 rfl ?_
  -- at 1121: .invokevirtual 146
  refine tr_Vi (As := []) dL_law_1121 fm_RL_146 rfl rfl (by first | assumption | decide) (by first | assumption | rfl) (Nat.le_of_ble_eq_true rfl) (f_asked hC) (fun v1 μ1 ⟨e1, e2, e3⟩ => ?_)
  refine tr_aload_n dL_law_1124 rfl ?_
  -- at 1125: .invokevirtual 149
  refine tr_Vi (As := []) dL_law_1125 fm_RL_149 rfl rfl (by first | assumption | decide) (by first | assumption | rfl) (Nat.le_of_ble_eq_true rfl) (r_asked (hM.frM e3)) (fun v2 μ2 ⟨u1, u2, u3⟩ => ?_)
  refine tr_icmp_eq (tgt := 1234) dL_law_1128 (by decide) (fun h1 => ?_) (fun h1 => ?_)
  · exact hn μ2 _ (e2.fqC u3) u2 hW
  · exact absurd (e1.trans u1.symm) h1
theorem lc_33 (hi : i + 6 ≤ X.1) (hX : X.1 ≤ 3072) (hC : CI μ σ) (hM : MI μ σ) (hW : WI σ) (hn : ∀ μ' σ', CI μ' σ' → MI μ' σ' → WI σ' → tw X 40 am_kL LQ 1234 [.ref 0, .ref 2, .ref 99, .int (nI i)] [] μ') : tw X 40 am_kL LQ 1133 [.ref 0, .ref 2, .ref 99, .int (nI i)] [] μ := by
  refine tr_aload_n dL_law_1133 rfl ?_
  -- at 1134: .invokevirtual 150
  refine tr_Vl (As := []) dL_law_1134 fm_RL_150 rfl rfl (by first | assumption | decide) (by first | assumption | rfl) (Nat.le_of_ble_eq_true rfl) (f_upper hC) (fun v1 μ1 ⟨e1, e2⟩ => ?_)
  subst μ1; subst v1
  refine tr_aload_n dL_law_1137 rfl ?_
  -- at 1138: .invokevirtual 154
  refine tr_Vl (As := []) dL_law_1138 fm_RL_154 rfl rfl (by first | assumption | decide) (by first | assumption | rfl) (Nat.le_of_ble_eq_true rfl) (r_upper hM) (fun v2 μ2 ⟨u1, u2⟩ => ?_)
  subst μ2; subst v2
  refine tr_lcmp dL_law_1141 ?_
  -- at 1142: .ifCond .eq 92
  refine tr_if_eq (tgt := 1234) dL_law_1142 (by decide) (fun h1 => ?_) (fun h1 => ?_)
  · exact hn μ σ hC hM hW
  · exact absurd ((lg_cmp_eq _ _).mpr rfl) h1
theorem lc_34 (hi : i + 6 ≤ X.1) (hX : X.1 ≤ 3072) (hC : CI μ σ) (hM : MI μ σ) (hW : WI σ) (hn : ∀ μ' σ', CI μ' σ' → MI μ' σ' → WI σ' → tw X 40 am_kL LQ 1234 [.ref 0, .ref 2, .ref 99, .int (nI i)] [] μ') : tw X 40 am_kL LQ 1147 [.ref 0, .ref 2, .ref 99, .int (nI i)] [] μ := by
  refine tr_aload_n dL_law_1147 rfl ?_
  -- at 1148: .invokevirtual 155
  refine tr_Vl (As := []) dL_law_1148 fm_RL_155 rfl rfl (by first | assumption | decide) (by first | assumption | rfl) (Nat.le_of_ble_eq_true rfl) (f_lower hC) (fun v1 μ1 ⟨e1, e2⟩ => ?_)
  subst μ1; subst v1
  refine tr_aload_n dL_law_1151 rfl ?_
  -- at 1152: .invokevirtual 158
  refine tr_Vl (As := []) dL_law_1152 fm_RL_158 rfl rfl (by first | assumption | decide) (by first | assumption | rfl) (Nat.le_of_ble_eq_true rfl) (r_lower hM) (fun v2 μ2 ⟨u1, u2⟩ => ?_)
  subst μ2; subst v2
  refine tr_lcmp dL_law_1155 ?_
  -- at 1156: .ifCond .eq 78
  refine tr_if_eq (tgt := 1234) dL_law_1156 (by decide) (fun h1 => ?_) (fun h1 => ?_)
  · exact hn μ σ hC hM hW
  · exact absurd ((lg_cmp_eq _ _).mpr rfl) h1
theorem lc_35 (hi : i + 6 ≤ X.1) (hX : X.1 ≤ 3072) (hC : CI μ σ) (hM : MI μ σ) (hW : WI σ) (hn : ∀ μ' σ', CI μ' σ' → MI μ' σ' → WI σ' → tw X 40 am_kL LQ 1234 [.ref 0, .ref 2, .ref 99, .int (nI i)] [] μ') : tw X 40 am_kL LQ 1161 [.ref 0, .ref 2, .ref 99, .int (nI i)] [] μ := by
  refine tr_aload_n dL_law_1161 rfl ?_
  refine tr_aload_n dL_law_1162 rfl ?_
  refine tr_iload_n dL_law_1163 rfl ?_
  refine tr_iconst (v := nI 1) dL_law_1164 (by decide) ?_
  refine tr_iaddN dL_law_1165 ?_
  refine tr_sald dL_law_1166 rfl (by omega) (by omega) ?_
  -- at 1167: .invokevirtual 159
  refine tr_Vi (As := [_]) dL_law_1167 fm_RL_159 rfl rfl (by first | assumption | decide) (by first | assumption | rfl) (Nat.le_of_ble_eq_true rfl) (f_count hC hW) (fun v1 μ1 ⟨e1, e2, e3⟩ => ?_)
  refine tr_aload_n dL_law_1170 rfl ?_
  refine tr_aload_n dL_law_1171 rfl ?_
  refine tr_iload_n dL_law_1172 rfl ?_
  refine tr_iconst (v := nI 1) dL_law_1173 (by decide) ?_
  refine tr_iaddN dL_law_1174 ?_
  refine tr_sald dL_law_1175 rfl (by omega) (by omega) ?_
  -- at 1176: .invokevirtual 162
  refine tr_Vi (As := [_]) dL_law_1176 fm_RL_162 rfl rfl (by first | assumption | decide) (by first | assumption | rfl) (Nat.le_of_ble_eq_true rfl) (r_count (hM.frM e3) hW) (fun v2 μ2 ⟨u1, u2, u3⟩ => ?_)
  refine tr_icmp_eq (tgt := 1234) dL_law_1179 (by decide) (fun h1 => ?_) (fun h1 => ?_)
  · exact hn μ2 _ (e2.fqC u3) u2 (hW.kp k_count)
  · exact absurd (e1.trans u1.symm) h1
theorem lc_36 (hi : i + 6 ≤ X.1) (hX : X.1 ≤ 3072) (hC : CI μ σ) (hM : MI μ σ) (hW : WI σ) (hn : ∀ μ' σ', CI μ' σ' → MI μ' σ' → WI σ' → tw X 40 am_kL LQ 1234 [.ref 0, .ref 2, .ref 99, .int (nI i)] [] μ') : tw X 40 am_kL LQ 1184 [.ref 0, .ref 2, .ref 99, .int (nI i)] [] μ := by
  refine tr_aload_n dL_law_1184 rfl ?_
  -- at 1185: .invokevirtual 163
  refine tr_Vi (As := []) dL_law_1185 fm_RL_163 rfl rfl (by first | assumption | decide) (by first | assumption | rfl) (Nat.le_of_ble_eq_true rfl) (f_finding hC) (fun v1 μ1 ⟨e1, e2, e3⟩ => ?_)
  refine tr_aload_n dL_law_1188 rfl ?_
  -- at 1189: .invokevirtual 166
  refine tr_Vi (As := []) dL_law_1189 fm_RL_166 rfl rfl (by first | assumption | decide) (by first | assumption | rfl) (Nat.le_of_ble_eq_true rfl) (r_finding (hM.frM e3)) (fun v2 μ2 ⟨u1, u2, u3⟩ => ?_)
  refine tr_icmp_eq (tgt := 1234) dL_law_1192 (by decide) (fun h1 => ?_) (fun h1 => ?_)
  · exact hn μ2 _ (e2.fqC u3) u2 hW
  · exact absurd (e1.trans u1.symm) h1
theorem lc_37 (hi : i + 6 ≤ X.1) (hX : X.1 ≤ 3072) (hC : CI μ σ) (hM : MI μ σ) (hW : WI σ) (hn : ∀ μ' σ', CI μ' σ' → MI μ' σ' → WI σ' → tw X 40 am_kL LQ 1234 [.ref 0, .ref 2, .ref 99, .int (nI i)] [] μ') : tw X 40 am_kL LQ 1197 [.ref 0, .ref 2, .ref 99, .int (nI i)] [] μ := by
  refine tr_aload_n dL_law_1197 rfl ?_
  refine tr_aload_n dL_law_1198 rfl ?_
  refine tr_iload_n dL_law_1199 rfl ?_
  refine tr_iconst (v := nI 1) dL_law_1200 (by decide) ?_
  refine tr_iaddN dL_law_1201 ?_
  refine tr_sald dL_law_1202 rfl (by omega) (by omega) ?_
  -- at 1203: .invokevirtual 167
  refine tr_Vi (As := [_]) dL_law_1203 fm_RL_167 rfl rfl (by first | assumption | decide) (by first | assumption | rfl) (Nat.le_of_ble_eq_true rfl) (f_findings hC) (fun v1 μ1 ⟨e1, e2, e3⟩ => ?_)
  refine tr_aload_n dL_law_1206 rfl ?_
  refine tr_aload_n dL_law_1207 rfl ?_
  refine tr_iload_n dL_law_1208 rfl ?_
  refine tr_iconst (v := nI 1) dL_law_1209 (by decide) ?_
  refine tr_iaddN dL_law_1210 ?_
  refine tr_sald dL_law_1211 rfl (by omega) (by omega) ?_
  -- at 1212: .invokevirtual 170
  refine tr_Vi (As := [_]) dL_law_1212 fm_RL_170 rfl rfl (by first | assumption | decide) (by first | assumption | rfl) (Nat.le_of_ble_eq_true rfl) (r_findings (hM.frM e3)) (fun v2 μ2 ⟨u1, u2, u3⟩ => ?_)
  refine tr_icmp_eq (tgt := 1234) dL_law_1215 (by decide) (fun h1 => ?_) (fun h1 => ?_)
  · exact hn μ2 _ (e2.fqC u3) u2 (hW.kp k_findings)
  · exact absurd (e1.trans u1.symm) h1
theorem lc_38 (hi : i + 6 ≤ X.1) (hX : X.1 ≤ 3072) (hC : CI μ σ) (hM : MI μ σ) (hW : WI σ) (hn : ∀ μ' σ', CI μ' σ' → MI μ' σ' → WI σ' → tw X 40 am_kL LQ 1234 [.ref 0, .ref 2, .ref 99, .int (nI i)] [] μ') : tw X 40 am_kL LQ 1220 [.ref 0, .ref 2, .ref 99, .int (nI i)] [] μ := by
  refine tr_aload_n dL_law_1220 rfl ?_
  -- at 1221: .invokevirtual 171
  refine tr_Vl (As := []) dL_law_1221 fm_RL_171 rfl rfl (by first | assumption | decide) (by first | assumption | rfl) (Nat.le_of_ble_eq_true rfl) (f_digest hC hW) (fun v1 μ1 ⟨e1, e2⟩ => ?_)
  subst μ1; subst v1
  refine tr_aload_n dL_law_1224 rfl ?_
  -- at 1225: .invokevirtual 174
  refine tr_Vl (As := []) dL_law_1225 fm_RL_174 rfl rfl (by first | assumption | decide) (by first | assumption | rfl) (Nat.le_of_ble_eq_true rfl) (r_digest hM hW) (fun v2 μ2 ⟨u1, u2⟩ => ?_)
  subst μ2; subst v2
  refine tr_lcmp dL_law_1228 ?_
  -- at 1229: .ifCond .eq 5
  refine tr_if_eq (tgt := 1234) dL_law_1229 (by decide) (fun h1 => ?_) (fun h1 => ?_)
  · exact hn μ σ hC hM hW
  · exact absurd ((lg_cmp_eq _ _).mpr rfl) h1
theorem lc_all {q : Nat} (hq : q < 39) (hi : i + 6 ≤ X.1) (hX : X.1 ≤ 3072) (hC : CI μ σ) (hM : MI μ σ) (hW : WI σ) (hn : ∀ μ' σ', CI μ' σ' → MI μ' σ' → WI σ' → tw X 40 am_kL LQ 1234 [.ref 0, .ref 2, .ref 99, .int (nI i)] [] μ') : tw X 40 am_kL LQ 33 [.ref 0, .ref 2, .ref 99, .int (nI i)] [.int (nI q)] μ := by
  match q, hq with
  | 0, _ =>
    refine tr_tableIn (off := 171) (tgt := 204) dL_law_33 (by decide) (by decide) (by decide) (by decide) ?_
    exact lc_0 hi hX hC hM hW hn
  | 1, _ =>
    refine tr_tableIn (off := 204) (tgt := 237) dL_law_33 (by decide) (by decide) (by decide) (by decide) ?_
    exact lc_1 hi hX hC hM hW hn
  | 2, _ =>
    refine tr_tableIn (off := 247) (tgt := 280) dL_law_33 (by decide) (by decide) (by decide) (by decide) ?_
    exact lc_2 hi hX hC hM hW hn
  | 3, _ =>
    refine tr_tableIn (off := 280) (tgt := 313) dL_law_33 (by decide) (by decide) (by decide) (by decide) ?_
    exact lc_3 hi hX hC hM hW hn
  | 4, _ =>
    refine tr_tableIn (off := 303) (tgt := 336) dL_law_33 (by decide) (by decide) (by decide) (by decide) ?_
    exact lc_4 hi hX hC hM hW hn
  | 5, _ =>
    refine tr_tableIn (off := 366) (tgt := 399) dL_law_33 (by decide) (by decide) (by decide) (by decide) ?_
    exact lc_5 hi hX hC hM hW hn
  | 6, _ =>
    refine tr_tableIn (off := 389) (tgt := 422) dL_law_33 (by decide) (by decide) (by decide) (by decide) ?_
    exact lc_6 hi hX hC hM hW hn
  | 7, _ =>
    refine tr_tableIn (off := 422) (tgt := 455) dL_law_33 (by decide) (by decide) (by decide) (by decide) ?_
    exact lc_7 hi hX hC hM hW hn
  | 8, _ =>
    refine tr_tableIn (off := 465) (tgt := 498) dL_law_33 (by decide) (by decide) (by decide) (by decide) ?_
    exact lc_8 hi hX hC hM hW hn
  | 9, _ =>
    refine tr_tableIn (off := 488) (tgt := 521) dL_law_33 (by decide) (by decide) (by decide) (by decide) ?_
    exact lc_9 hi hX hC hM hW hn
  | 10, _ =>
    refine tr_tableIn (off := 511) (tgt := 544) dL_law_33 (by decide) (by decide) (by decide) (by decide) ?_
    exact lc_10 hi hX hC hM hW hn
  | 11, _ =>
    refine tr_tableIn (off := 544) (tgt := 577) dL_law_33 (by decide) (by decide) (by decide) (by decide) ?_
    exact lc_11 hi hX hC hM hW hn
  | 12, _ =>
    refine tr_tableIn (off := 577) (tgt := 610) dL_law_33 (by decide) (by decide) (by decide) (by decide) ?_
    exact lc_12 hi hX hC hM hW hn
  | 13, _ =>
    refine tr_tableIn (off := 590) (tgt := 623) dL_law_33 (by decide) (by decide) (by decide) (by decide) ?_
    exact lc_13 hi hX hC hM hW hn
  | 14, _ =>
    refine tr_tableIn (off := 623) (tgt := 656) dL_law_33 (by decide) (by decide) (by decide) (by decide) ?_
    exact lc_14 hi hX hC hM hW hn
  | 15, _ =>
    refine tr_tableIn (off := 646) (tgt := 679) dL_law_33 (by decide) (by decide) (by decide) (by decide) ?_
    exact lc_15 hi hX hC hM hW hn
  | 16, _ =>
    refine tr_tableIn (off := 669) (tgt := 702) dL_law_33 (by decide) (by decide) (by decide) (by decide) ?_
    exact lc_16 hi hX hC hM hW hn
  | 17, _ =>
    refine tr_tableIn (off := 692) (tgt := 725) dL_law_33 (by decide) (by decide) (by decide) (by decide) ?_
    exact lc_17 hi hX hC hM hW hn
  | 18, _ =>
    refine tr_tableIn (off := 715) (tgt := 748) dL_law_33 (by decide) (by decide) (by decide) (by decide) ?_
    exact lc_18 hi hX hC hM hW hn
  | 19, _ =>
    refine tr_tableIn (off := 738) (tgt := 771) dL_law_33 (by decide) (by decide) (by decide) (by decide) ?_
    exact lc_19 hi hX hC hM hW hn
  | 20, _ =>
    refine tr_tableIn (off := 761) (tgt := 794) dL_law_33 (by decide) (by decide) (by decide) (by decide) ?_
    exact lc_20 hi hX hC hM hW hn
  | 21, _ =>
    refine tr_tableIn (off := 774) (tgt := 807) dL_law_33 (by decide) (by decide) (by decide) (by decide) ?_
    exact lc_21 hi hX hC hM hW hn
  | 22, _ =>
    refine tr_tableIn (off := 787) (tgt := 820) dL_law_33 (by decide) (by decide) (by decide) (by decide) ?_
    exact lc_22 hi hX hC hM hW hn
  | 23, _ =>
    refine tr_tableIn (off := 800) (tgt := 833) dL_law_33 (by decide) (by decide) (by decide) (by decide) ?_
    exact lc_23 hi hX hC hM hW hn
  | 24, _ =>
    refine tr_tableIn (off := 823) (tgt := 856) dL_law_33 (by decide) (by decide) (by decide) (by decide) ?_
    exact lc_24 hi hX hC hM hW hn
  | 25, _ =>
    refine tr_tableIn (off := 856) (tgt := 889) dL_law_33 (by decide) (by decide) (by decide) (by decide) ?_
    exact lc_25 hi hX hC hM hW hn
  | 26, _ =>
    refine tr_tableIn (off := 889) (tgt := 922) dL_law_33 (by decide) (by decide) (by decide) (by decide) ?_
    exact lc_26 hi hX hC hM hW hn
  | 27, _ =>
    refine tr_tableIn (off := 922) (tgt := 955) dL_law_33 (by decide) (by decide) (by decide) (by decide) ?_
    exact lc_27 hi hX hC hM hW hn
  | 28, _ =>
    refine tr_tableIn (off := 955) (tgt := 988) dL_law_33 (by decide) (by decide) (by decide) (by decide) ?_
    exact lc_28 hi hX hC hM hW hn
  | 29, _ =>
    refine tr_tableIn (off := 978) (tgt := 1011) dL_law_33 (by decide) (by decide) (by decide) (by decide) ?_
    exact lc_29 hi hX hC hM hW hn
  | 30, _ =>
    refine tr_tableIn (off := 1021) (tgt := 1054) dL_law_33 (by decide) (by decide) (by decide) (by decide) ?_
    exact lc_30 hi hX hC hM hW hn
  | 31, _ =>
    refine tr_tableIn (off := 1054) (tgt := 1087) dL_law_33 (by decide) (by decide) (by decide) (by decide) ?_
    exact lc_31 hi hX hC hM hW hn
  | 32, _ =>
    refine tr_tableIn (off := 1087) (tgt := 1120) dL_law_33 (by decide) (by decide) (by decide) (by decide) ?_
    exact lc_32 hi hX hC hM hW hn
  | 33, _ =>
    refine tr_tableIn (off := 1100) (tgt := 1133) dL_law_33 (by decide) (by decide) (by decide) (by decide) ?_
    exact lc_33 hi hX hC hM hW hn
  | 34, _ =>
    refine tr_tableIn (off := 1114) (tgt := 1147) dL_law_33 (by decide) (by decide) (by decide) (by decide) ?_
    exact lc_34 hi hX hC hM hW hn
  | 35, _ =>
    refine tr_tableIn (off := 1128) (tgt := 1161) dL_law_33 (by decide) (by decide) (by decide) (by decide) ?_
    exact lc_35 hi hX hC hM hW hn
  | 36, _ =>
    refine tr_tableIn (off := 1151) (tgt := 1184) dL_law_33 (by decide) (by decide) (by decide) (by decide) ?_
    exact lc_36 hi hX hC hM hW hn
  | 37, _ =>
    refine tr_tableIn (off := 1164) (tgt := 1197) dL_law_33 (by decide) (by decide) (by decide) (by decide) ?_
    exact lc_37 hi hX hC hM hW hn
  | 38, _ =>
    refine tr_tableIn (off := 1187) (tgt := 1220) dL_law_33 (by decide) (by decide) (by decide) (by decide) ?_
    exact lc_38 hi hX hC hM hW hn
  | q + 39, hq => exact absurd hq (by omega)
theorem l_law (hX : X.1 ≤ 3072) : ∀ (m i : Nat) (σ : SG) (μ : am_M), X.1 + 6 ≤ i + m → i ≤ X.1 + 6 → CI μ σ → MI μ σ → WI σ → tw X 40 am_kL LQ 18 [.ref 0, .ref 2, .ref 99, .int (nI i)] [] μ
  | m, i, σ, μ, hm, hi0, hC, hM, hW => by
    refine tr_iload_n dL_law_18 rfl ?_
    refine tr_aload_n dL_law_19 rfl ?_
    refine tr_slen dL_law_20 ?_
    refine tr_bipush (v := nI 6) dL_law_21 (by decide) ?_
    -- at 23: .isub
    refine tr_isub dL_law_23 ?_
    refine tr_icmp_gt (tgt := 1240) dL_law_24 (by decide) (fun h1 => ?_) (fun h1 => ?_)
    · refine tr_iconst (v := nI 1) dL_law_1240 (by decide) ?_
      -- at 1241: .ireturn
      refine tr_iret dL_law_1241 (by first | exact trivial | rfl) rfl
    · have hi : i + 6 ≤ X.1 := by
        by_cases h6 : X.1 < 6
        · exact absurd (Int32.lt_of_lt_of_le (pk_sneg (by omega) h6) (nI_pos' (by omega))) h1
        · rw [pk_sub (by omega)] at h1
          have : ¬ X.1 - 6 < i := fun q => h1 ((nI_ltI (by omega) (by omega)).mpr q)
          omega
      have hn : ∀ μ' σ', CI μ' σ' → MI μ' σ' → WI σ' → tw X 40 am_kL LQ 1234 [.ref 0, .ref 2, .ref 99, .int (nI i)] [] μ' := by
        intro μ' σ' hC' hM' hW'
        refine tr_ii6 dL_law_1234 (by decide) ?_
        refine tr_goto (tgt := 18) dL_law_1237 (by decide) ?_
        -- at 18: .iload_n 3
        exact l_law hX (m - 1) (i + 6) σ' μ' (by omega) (by omega) hC' hM' hW'
      refine tr_aload_n dL_law_27 rfl ?_
      refine tr_iload_n dL_law_28 rfl ?_
      refine tr_sald dL_law_29 rfl (by omega) (by omega) ?_
      refine tr_bipush (v := nI 63) dL_law_30 (by decide) ?_
      refine tr_iand dL_law_32 ?_
      -- at 33: .tableswitch 1201 0 38 #[171, 204, 247, 280, 303, 366, 389, 
      obtain ⟨q, hq, e⟩ := pk_andE (X.2 i) (m := nI 63) 6 rfl
      rw [e]
      have hq : q < 64 := hq
      by_cases h39 : q < 39
      · exact lc_all h39 hi hX hC hM hW hn
      · refine tr_tableOut (tgt := 1234) dL_law_33 ?_ (by decide) (hn μ σ hC hM hW)
        rw [nI_toInt (by omega)]
        omega
  termination_by m => m
theorem law_run (hX : X.1 ≤ 3072) : ∃ h', h'.length ≤ 600000 ∧ am_sz h' ≤ 7302250 ∧ am_run X (am_C_ X 40) am_kL (some (.int 1)) h' 0 (am_eL [.ref 0] 4) [] [] := by
  have key : tk X 40 am_kL (fun r n' c' => r = some (.int 1) ∧ ∃ μ', hl n' c' = hp μ') 0 [.ref 0, .float 0, .float 0, .float 0] [] 0 (fun _ => cI 0) := by
    refine tk_new (n' := 1) (r := 2) dL_law_0 fn_RL_7 rfl rfl ?_
    refine tk_dup dL_law_3 rfl ?_
    refine tk_callI (As := []) dL_law_4 fm_RL_9 rfl rfl (by decide) (k_X7 (d := 37) rfl) (fun n1 c1 e1 e2 => ?_)
    subst e1
    refine tk_as (L' := [.ref 0, .ref 2, .float 0, .float 0]) dL_law_7 (by decide) rfl ?_
    refine tk_new (n' := 98) (r := 99) dL_law_8 fn_RL_10 rfl rfl ?_
    refine tk_dup dL_law_11 rfl ?_
    refine tk_callI (As := []) dL_law_12 fm_RL_12 rfl rfl (by decide) (k_X8 (d := 39) rfl) (fun n2 c2 e3 e4 => ?_)
    subst e3; subst e4
    refine tk_as (L' := [.ref 0, .ref 2, .ref 99, .float 0]) dL_law_15 (by decide) rfl ?_
    refine tk_ic (v := nI 0) dL_law_16 (by decide) ?_
    refine tk_is (L' := [.ref 0, .ref 2, .ref 99, .int (nI 0)]) dL_law_17 (by decide) rfl ?_
    have e : hl 115 (fun q => if q < 97 then (uC c1 97 (.inr (7, [.null, .null, .null, .null, .null, .null, .null, .null, .null, .null, .int 0, .null, .null, .null, .int 0, .long 0, .long 0, .int 0, .null, .null, .null, .null]))) q else am_co (shp (q + 2)) mu0 (q + 2)) = hp mu0 := hp_of (fun q hq => by
      by_cases h : q < 97
      · rw [if_pos h, uC, if_neg (by omega)]; exact e2 q h
      · rw [if_neg h])
    have h18 := l_law hX (X.1 + 6) 0 sg0 mu0 (by omega) (by omega) ci0 mi0 wi0
    obtain ⟨r, h', ⟨μ', q1, v, q2, q3⟩, hr⟩ := h18
    refine ⟨r, h', ⟨115, fun k => am_co (shp (k + 2)) μ' (k + 2), q1, by rw [q2, q3], μ', rfl⟩, ?_⟩
    rw [e]
    exact hr
  obtain ⟨r, h', ⟨n', c', q1, q2, μ', q3⟩, hr⟩ := key
  rw [q2] at hr
  refine ⟨h', ?_, ?_, hr⟩
  · rw [q1, q3, hp_len]; omega
  · rw [q1, q3]; exact hp_sz μ'
end LW
theorem whole_start {p : Program} {e : Env} {s : State} {m : MethodId} {below : List Frame} {meth : Method} {c : Code} (l : Launch) {b : Nat} {xs : List Int32} (hbd : xs.length ≤ 3072) (C0 : lw_At p s m meth c b xs.length (fun j => xs.getD j 0)) : W p l e room_1 s m #[Value.ref b] below meth c s.heap [] 0 0 (lw_Z below #[Value.ref b] s) (entryFrame m ([Value.ref b] : List Value).toArray 4) := by
  obtain ⟨h', m1, m2, hrun⟩ := law_run (X := (xs.length, fun j => xs.getD j 0)) hbd
  exact am_law l C0 40 (by omega) m1 m2 hrun
