/-! the law's loop: all its pairs of calls are alike -/
theorem zand63 (v : Int) : zbin 3 v 63 = v % 64 := by
  have h : (Int32.ofInt v &&& Int32.ofInt 63).toBitVec.toNat = (v % 4294967296).toNat % 64 := by
    rw [Int32.toBitVec_and, BitVec.toNat_and, Int32.toBitVec_ofInt, Int32.toBitVec_ofInt, BitVec.toNat_ofInt]
    rw [show (BitVec.ofInt 32 63).toNat = 2 ^ 6 - 1 by decide, Nat.and_two_pow_sub_one_eq_mod]
    rfl
  show (Int32.ofInt v &&& Int32.ofInt 63).toBitVec.toInt = _
  rw [BitVec.toInt_eq_toNat_of_lt (by rw [h]; omega), h]
  omega
set_option maxHeartbeats 4000000 in
theorem zEx_call {Call Call' : Nat → List zV → zM → (zM → Option zV → Prop) → Prop} {K : zM → Option zV → Prop} {sL : Nat} {xs : Nat → Int} {X : zS → Prop}
    (hC : ∀ mi as σ (K1 : zM → Option zV → Prop), Call mi as σ K1 → Call' mi as σ K1)
    (e : zE) (L st : List zV) (σ : zM) (h : zEx Call K sL xs X e L st σ) : zEx Call' K sL xs X e L st σ := by
  obtain ⟨op, nxt, a, b, z⟩ := e
  unfold zEx at h ⊢
  dsimp only at h ⊢
  split at h
  all_goals first
    | exact h
    | ((repeat' (split at h)) <;> first
        | exact h.elim
        | exact hC _ _ _ _ h
        | (simp only [*]; first | exact hC _ _ _ _ h))
theorem zStep_call {Call Call' : Nat → List zV → zM → (zM → Option zV → Prop) → Prop} {K : zM → Option zV → Prop} {sL : Nat} {xs : Nat → Int} {X : zS → Prop}
    (hC : ∀ mi as σ (K1 : zM → Option zV → Prop), Call mi as σ K1 → Call' mi as σ K1) (mi : Nat) (S : zS) (h : zStep Call K sL xs X mi S) : zStep Call' K sL xs X mi S := by
  unfold zStep at h ⊢
  cases hb : Nat.blt S.1 (zN mi) with
  | true => rw [hb] at h; exact zEx_call hC _ _ _ _ h
  | false => rw [hb] at h; exact h
theorem zC_up : ∀ (d mi : Nat) (as : List zV) (σ : zM) (K : zM → Option zV → Prop), zC d mi as σ K → zC (d + 1) mi as σ K
  | 0, _, _, _, _, h => h.elim
  | d + 1, mi, as, σ, K, h => by
    rw [zC] at h ⊢
    cases hb : Nat.ble (zlay as).length (zl mi) with
    | false => rw [hb] at h ⊢; exact h
    | true =>
      rw [hb] at h ⊢
      exact zGo_mono (fun X S q => zStep_call (zC_up d) mi S q) h
theorem zC_le {d : Nat} {mi : Nat} {as : List zV} {σ : zM} {K : zM → Option zV → Prop} (h : zC d mi as σ K) : ∀ k : Nat, zC (d + k) mi as σ K
  | 0 => h
  | k + 1 => zC_up _ _ _ _ _ (zC_le h k)
theorem zld_ex {L : List zV} {t i : Nat} {P : Prop} {f : zV → Prop} (h : ∀ v, f v → P) (q : zld L t i f) : P := by
  unfold zld at q
  cases hL : L[i]? with
  | none => rw [hL] at q; exact q.elim
  | some v =>
    rw [hL] at q
    dsimp only at q
    split at q
    · exact h _ q
    · exact h _ q
    · exact h _ q
    · exact h _ q
    · exact q.elim
set_option maxHeartbeats 4000000 in
theorem zEx_ex {Call : Nat → List zV → zM → (zM → Option zV → Prop) → Prop} {K : zM → Option zV → Prop} {sL : Nat} {xs : Nat → Int} {P : Prop}
    (hC : ∀ mi as σ (K1 : zM → Option zV → Prop), Call mi as σ K1 → ∃ τ v, K1 τ v) (hK : ∀ σ v, K σ v → P)
    (e : zE) (L st : List zV) (σ : zM) (h : zEx Call K sL xs (fun _ => P) e L st σ) : P := by
  obtain ⟨op, nxt, a, b, z⟩ := e
  unfold zEx at h
  dsimp only at h
  split at h
  case h_2 => exact zld_ex (fun v q => q) h
  case h_3 => exact zld_ex (fun v q => q) h
  case h_4 => exact zld_ex (fun v q => q) h
  case h_8 => exact zld_ex (fun v q => by split at q; exact q; exact q.elim) h
  all_goals first
    | exact h
    | ((repeat' (split at h)) <;> first
        | exact h.elim
        | exact h
        | exact hK _ _ h
        | exact h.2
        | exact hK _ _ h.2
        | exact (Classical.em _).elim h.1 h.2
        | (obtain ⟨_, _, q⟩ := hC _ _ _ _ h; exact q))
theorem zC_ex : ∀ (d mi : Nat) (as : List zV) (σ : zM) (K : zM → Option zV → Prop), zC d mi as σ K → ∃ τ v, K τ v
  | 0, _, _, _, _, h => h.elim
  | d + 1, mi, as, σ, K, h => by
    rw [zC] at h
    cases hb : Nat.ble (zlay as).length (zl mi) with
    | false => rw [hb] at h; exact h.elim
    | true =>
      rw [hb] at h
      refine h (fun _ => ∃ τ v, K τ v) (fun S q => ?_) (fun _ _ q => q)
      unfold zStep at q
      dsimp only at q
      cases hb2 : Nat.blt S.1 (zN mi) with
      | true => rw [hb2] at q; exact zEx_ex (zC_ex d) (fun σ v q => ⟨σ, v, q⟩) _ _ _ _ q
      | false => rw [hb2] at q; exact q.elim
abbrev zLK : zM → Option zV → Prop := fun _ r => r = some (vI 1)
theorem law_0 {sL : Nat} {xs : Nat → Int} {σ : zM} {i : Int} (hxs : ∀ j, zi32 (xs j)) (hsL : sL ≤ 3072) (h : zInv σ) (hi : 0 ≤ i) (hi6 : i + 6 ≤ sL) (ih : ∀ σ2, zInv σ2 → zG 41 138 zLK sL xs (1206, [vR 43, vR 0, vR 27, vI i], [], σ2)) : zG 41 138 zLK sL xs (184, [vR (43), vR (0), vR (27), vI (i)], [], σ) := by
  refine r_aload k_138_184 rfl ?_
  refine r_aload k_138_185 rfl ?_
  refine r_iload k_138_186 rfl ?_
  refine r_const k_138_187 ?_
  refine r_bin (v := i + 1) k_138_188 (zb_add ⟨by omega, by omega⟩) ?_
  refine r_scr k_138_189 ⟨by omega, by omega⟩ ?_
  refine r_call (as := [vR (0), vI (xs (i + 1).toNat)]) (r := []) k_138_190 rfl rfl rfl ?_
  refine zC_mono _ _ _ _ _ _ (fun σ1 r1 h1 => ?_) (p_colours (d := 0) h )
  obtain ⟨_, _, ⟨v, rfl, _⟩, _⟩ := zC_ex _ _ _ _ _ h1
  refine r_aload k_138_193 rfl ?_
  refine r_aload k_138_194 rfl ?_
  refine r_iload k_138_195 rfl ?_
  refine r_const k_138_196 ?_
  refine r_bin (v := i + 1) k_138_197 (zb_add ⟨by omega, by omega⟩) ?_
  refine r_scr k_138_198 ⟨by omega, by omega⟩ ?_
  refine r_call (as := [vR (27), vI (xs (i + 1).toNat)]) (r := [vI (v)]) k_138_199 rfl rfl rfl ?_
  refine zC_mono _ _ _ _ _ _ (fun σ2 r2 h2 => ?_) (zC_le h1 36)
  obtain ⟨⟨v2, e1, rfl⟩, hI⟩ := h2
  obtain rfl : v = v2 := by injection e1 with e1; injection e1
  refine r_ic_eq k_138_202 (fun _ => ?_) (fun hz => absurd hz (fun q => q rfl))
  exact ih _ hI
theorem law_1 {sL : Nat} {xs : Nat → Int} {σ : zM} {i : Int} (hxs : ∀ j, zi32 (xs j)) (hsL : sL ≤ 3072) (h : zInv σ) (hi : 0 ≤ i) (hi6 : i + 6 ≤ sL) (ih : ∀ σ2, zInv σ2 → zG 41 138 zLK sL xs (1206, [vR 43, vR 0, vR 27, vI i], [], σ2)) : zG 41 138 zLK sL xs (207, [vR (43), vR (0), vR (27), vI (i)], [], σ) := by
  refine r_aload k_138_207 rfl ?_
  refine r_aload k_138_208 rfl ?_
  refine r_iload k_138_209 rfl ?_
  refine r_const k_138_210 ?_
  refine r_bin (v := i + 1) k_138_211 (zb_add ⟨by omega, by omega⟩) ?_
  refine r_scr k_138_212 ⟨by omega, by omega⟩ ?_
  refine r_aload k_138_213 rfl ?_
  refine r_iload k_138_214 rfl ?_
  refine r_const k_138_215 ?_
  refine r_bin (v := i + 2) k_138_216 (zb_add ⟨by omega, by omega⟩) ?_
  refine r_scr k_138_217 ⟨by omega, by omega⟩ ?_
  refine r_call (as := [vR (0), vI (xs (i + 1).toNat), vI (xs (i + 2).toNat)]) (r := []) k_138_218 rfl rfl rfl ?_
  refine zC_mono _ _ _ _ _ _ (fun σ1 r1 h1 => ?_) (p_price (d := 0) h )
  obtain ⟨_, _, ⟨v, rfl, _⟩, _⟩ := zC_ex _ _ _ _ _ h1
  refine r_aload k_138_221 rfl ?_
  refine r_aload k_138_222 rfl ?_
  refine r_iload k_138_223 rfl ?_
  refine r_const k_138_224 ?_
  refine r_bin (v := i + 1) k_138_225 (zb_add ⟨by omega, by omega⟩) ?_
  refine r_scr k_138_226 ⟨by omega, by omega⟩ ?_
  refine r_aload k_138_227 rfl ?_
  refine r_iload k_138_228 rfl ?_
  refine r_const k_138_229 ?_
  refine r_bin (v := i + 2) k_138_230 (zb_add ⟨by omega, by omega⟩) ?_
  refine r_scr k_138_231 ⟨by omega, by omega⟩ ?_
  refine r_call (as := [vR (27), vI (xs (i + 1).toNat), vI (xs (i + 2).toNat)]) (r := [vI (v)]) k_138_232 rfl rfl rfl ?_
  refine zC_mono _ _ _ _ _ _ (fun σ2 r2 h2 => ?_) (zC_le h1 36)
  obtain ⟨⟨v2, e1, rfl⟩, hI⟩ := h2
  obtain rfl : v = v2 := by injection e1 with e1; injection e1
  refine r_ic_eq k_138_235 (fun _ => ?_) (fun hz => absurd hz (fun q => q rfl))
  exact ih _ hI
theorem law_2 {sL : Nat} {xs : Nat → Int} {σ : zM} {i : Int} (hxs : ∀ j, zi32 (xs j)) (hsL : sL ≤ 3072) (h : zInv σ) (hi : 0 ≤ i) (hi6 : i + 6 ≤ sL) (ih : ∀ σ2, zInv σ2 → zG 41 138 zLK sL xs (1206, [vR 43, vR 0, vR 27, vI i], [], σ2)) : zG 41 138 zLK sL xs (240, [vR (43), vR (0), vR (27), vI (i)], [], σ) := by
  refine r_aload k_138_240 rfl ?_
  refine r_aload k_138_241 rfl ?_
  refine r_iload k_138_242 rfl ?_
  refine r_const k_138_243 ?_
  refine r_bin (v := i + 1) k_138_244 (zb_add ⟨by omega, by omega⟩) ?_
  refine r_scr k_138_245 ⟨by omega, by omega⟩ ?_
  refine r_aload k_138_246 rfl ?_
  refine r_iload k_138_247 rfl ?_
  refine r_const k_138_248 ?_
  refine r_bin (v := i + 2) k_138_249 (zb_add ⟨by omega, by omega⟩) ?_
  refine r_scr k_138_250 ⟨by omega, by omega⟩ ?_
  refine r_call (as := [vR (0), vI (xs (i + 1).toNat), vI (xs (i + 2).toNat)]) (r := []) k_138_251 rfl rfl rfl ?_
  refine zC_mono _ _ _ _ _ _ (fun σ1 r1 h1 => ?_) (p_rule (d := 0) h )
  obtain ⟨_, _, ⟨v, rfl, _⟩, _⟩ := zC_ex _ _ _ _ _ h1
  refine r_aload k_138_254 rfl ?_
  refine r_aload k_138_255 rfl ?_
  refine r_iload k_138_256 rfl ?_
  refine r_const k_138_257 ?_
  refine r_bin (v := i + 1) k_138_258 (zb_add ⟨by omega, by omega⟩) ?_
  refine r_scr k_138_259 ⟨by omega, by omega⟩ ?_
  refine r_aload k_138_260 rfl ?_
  refine r_iload k_138_261 rfl ?_
  refine r_const k_138_262 ?_
  refine r_bin (v := i + 2) k_138_263 (zb_add ⟨by omega, by omega⟩) ?_
  refine r_scr k_138_264 ⟨by omega, by omega⟩ ?_
  refine r_call (as := [vR (27), vI (xs (i + 1).toNat), vI (xs (i + 2).toNat)]) (r := [vI (v)]) k_138_265 rfl rfl rfl ?_
  refine zC_mono _ _ _ _ _ _ (fun σ2 r2 h2 => ?_) (zC_le h1 36)
  obtain ⟨⟨v2, e1, rfl⟩, hI⟩ := h2
  obtain rfl : v = v2 := by injection e1 with e1; injection e1
  refine r_ic_eq k_138_268 (fun _ => ?_) (fun hz => absurd hz (fun q => q rfl))
  exact ih _ hI
theorem law_3 {sL : Nat} {xs : Nat → Int} {σ : zM} {i : Int} (hxs : ∀ j, zi32 (xs j)) (hsL : sL ≤ 3072) (h : zInv σ) (hi : 0 ≤ i) (hi6 : i + 6 ≤ sL) (ih : ∀ σ2, zInv σ2 → zG 41 138 zLK sL xs (1206, [vR 43, vR 0, vR 27, vI i], [], σ2)) : zG 41 138 zLK sL xs (273, [vR (43), vR (0), vR (27), vI (i)], [], σ) := by
  refine r_aload k_138_273 rfl ?_
  refine r_aload k_138_274 rfl ?_
  refine r_iload k_138_275 rfl ?_
  refine r_const k_138_276 ?_
  refine r_bin (v := i + 1) k_138_277 (zb_add ⟨by omega, by omega⟩) ?_
  refine r_scr k_138_278 ⟨by omega, by omega⟩ ?_
  refine r_call (as := [vR (0), vI (xs (i + 1).toNat)]) (r := []) k_138_279 rfl rfl rfl ?_
  refine zC_mono _ _ _ _ _ _ (fun σ1 r1 h1 => ?_) (p_paint (d := 0) h )
  obtain ⟨_, _, ⟨v, rfl, _⟩, _⟩ := zC_ex _ _ _ _ _ h1
  refine r_aload k_138_282 rfl ?_
  refine r_aload k_138_283 rfl ?_
  refine r_iload k_138_284 rfl ?_
  refine r_const k_138_285 ?_
  refine r_bin (v := i + 1) k_138_286 (zb_add ⟨by omega, by omega⟩) ?_
  refine r_scr k_138_287 ⟨by omega, by omega⟩ ?_
  refine r_call (as := [vR (27), vI (xs (i + 1).toNat)]) (r := [vI (v)]) k_138_288 rfl rfl rfl ?_
  refine zC_mono _ _ _ _ _ _ (fun σ2 r2 h2 => ?_) (zC_le h1 36)
  obtain ⟨⟨v2, e1, rfl⟩, hI⟩ := h2
  obtain rfl : v = v2 := by injection e1 with e1; injection e1
  refine r_ic_eq k_138_291 (fun _ => ?_) (fun hz => absurd hz (fun q => q rfl))
  exact ih _ hI
theorem law_4 {sL : Nat} {xs : Nat → Int} {σ : zM} {i : Int} (hxs : ∀ j, zi32 (xs j)) (hsL : sL ≤ 3072) (h : zInv σ) (hi : 0 ≤ i) (hi6 : i + 6 ≤ sL) (ih : ∀ σ2, zInv σ2 → zG 41 138 zLK sL xs (1206, [vR 43, vR 0, vR 27, vI i], [], σ2)) : zG 41 138 zLK sL xs (296, [vR (43), vR (0), vR (27), vI (i)], [], σ) := by
  refine r_aload k_138_296 rfl ?_
  refine r_aload k_138_297 rfl ?_
  refine r_iload k_138_298 rfl ?_
  refine r_const k_138_299 ?_
  refine r_bin (v := i + 1) k_138_300 (zb_add ⟨by omega, by omega⟩) ?_
  refine r_scr k_138_301 ⟨by omega, by omega⟩ ?_
  refine r_call (as := [vR (0), vI (xs (i + 1).toNat)]) (r := []) k_138_302 rfl rfl rfl ?_
  refine zC_mono _ _ _ _ _ _ (fun σ1 r1 h1 => ?_) (p_scrape (d := 0) h )
  obtain ⟨_, _, ⟨v, rfl, _⟩, _⟩ := zC_ex _ _ _ _ _ h1
  refine r_aload k_138_305 rfl ?_
  refine r_aload k_138_306 rfl ?_
  refine r_iload k_138_307 rfl ?_
  refine r_const k_138_308 ?_
  refine r_bin (v := i + 1) k_138_309 (zb_add ⟨by omega, by omega⟩) ?_
  refine r_scr k_138_310 ⟨by omega, by omega⟩ ?_
  refine r_call (as := [vR (27), vI (xs (i + 1).toNat)]) (r := [vI (v)]) k_138_311 rfl rfl rfl ?_
  refine zC_mono _ _ _ _ _ _ (fun σ2 r2 h2 => ?_) (zC_le h1 36)
  obtain ⟨⟨v2, e1, rfl⟩, hI⟩ := h2
  obtain rfl : v = v2 := by injection e1 with e1; injection e1
  refine r_ic_eq k_138_314 (fun _ => ?_) (fun hz => absurd hz (fun q => q rfl))
  exact ih _ hI
theorem law_5 {sL : Nat} {xs : Nat → Int} {σ : zM} {i : Int} (hxs : ∀ j, zi32 (xs j)) (hsL : sL ≤ 3072) (h : zInv σ) (hi : 0 ≤ i) (hi6 : i + 6 ≤ sL) (ih : ∀ σ2, zInv σ2 → zG 41 138 zLK sL xs (1206, [vR 43, vR 0, vR 27, vI i], [], σ2)) : zG 41 138 zLK sL xs (319, [vR (43), vR (0), vR (27), vI (i)], [], σ) := by
  refine r_aload k_138_319 rfl ?_
  refine r_aload k_138_320 rfl ?_
  refine r_iload k_138_321 rfl ?_
  refine r_const k_138_322 ?_
  refine r_bin (v := i + 1) k_138_323 (zb_add ⟨by omega, by omega⟩) ?_
  refine r_scr k_138_324 ⟨by omega, by omega⟩ ?_
  refine r_call (as := [vR (0), vI (xs (i + 1).toNat)]) (r := []) k_138_325 rfl rfl rfl ?_
  refine zC_mono _ _ _ _ _ _ (fun σ1 r1 h1 => ?_) (p_pale (d := 0) h )
  obtain ⟨_, _, ⟨v, rfl, _⟩, _⟩ := zC_ex _ _ _ _ _ h1
  refine r_aload k_138_328 rfl ?_
  refine r_aload k_138_329 rfl ?_
  refine r_iload k_138_330 rfl ?_
  refine r_const k_138_331 ?_
  refine r_bin (v := i + 1) k_138_332 (zb_add ⟨by omega, by omega⟩) ?_
  refine r_scr k_138_333 ⟨by omega, by omega⟩ ?_
  refine r_call (as := [vR (27), vI (xs (i + 1).toNat)]) (r := [vI (v)]) k_138_334 rfl rfl rfl ?_
  refine zC_mono _ _ _ _ _ _ (fun σ2 r2 h2 => ?_) (zC_le h1 36)
  obtain ⟨⟨v2, e1, rfl⟩, hI⟩ := h2
  obtain rfl : v = v2 := by injection e1 with e1; injection e1
  refine r_ic_eq k_138_337 (fun _ => ?_) (fun hz => absurd hz (fun q => q rfl))
  exact ih _ hI
theorem law_6 {sL : Nat} {xs : Nat → Int} {σ : zM} {i : Int} (hxs : ∀ j, zi32 (xs j)) (hsL : sL ≤ 3072) (h : zInv σ) (hi : 0 ≤ i) (hi6 : i + 6 ≤ sL) (ih : ∀ σ2, zInv σ2 → zG 41 138 zLK sL xs (1206, [vR 43, vR 0, vR 27, vI i], [], σ2)) : zG 41 138 zLK sL xs (342, [vR (43), vR (0), vR (27), vI (i)], [], σ) := by
  refine r_aload k_138_342 rfl ?_
  refine r_aload k_138_343 rfl ?_
  refine r_iload k_138_344 rfl ?_
  refine r_const k_138_345 ?_
  refine r_bin (v := i + 1) k_138_346 (zb_add ⟨by omega, by omega⟩) ?_
  refine r_scr k_138_347 ⟨by omega, by omega⟩ ?_
  refine r_cnv (w := vL (xs (i + 1).toNat)) k_138_348 rfl ?_
  refine r_const k_138_349 ?_
  refine r_lsh (v := zlsh 0 (xs (i + 1).toNat) 32) k_138_351 rfl ?_
  refine r_aload k_138_352 rfl ?_
  refine r_iload k_138_353 rfl ?_
  refine r_const k_138_354 ?_
  refine r_bin (v := i + 2) k_138_355 (zb_add ⟨by omega, by omega⟩) ?_
  refine r_scr k_138_356 ⟨by omega, by omega⟩ ?_
  refine r_cnv (w := vL (xs (i + 2).toNat)) k_138_357 rfl ?_
  refine r_lconst k_138_358 ?_
  refine r_lbin (v := zlbin 2 (xs (i + 2).toNat) 4294967295) k_138_361 rfl ?_
  refine r_lbin (v := zlbin 3 (zlsh 0 (xs (i + 1).toNat) 32) (zlbin 2 (xs (i + 2).toNat) 4294967295)) k_138_362 rfl ?_
  refine r_aload k_138_363 rfl ?_
  refine r_iload k_138_364 rfl ?_
  refine r_const k_138_365 ?_
  refine r_bin (v := i + 3) k_138_366 (zb_add ⟨by omega, by omega⟩) ?_
  refine r_scr k_138_367 ⟨by omega, by omega⟩ ?_
  refine r_call (as := [vR (0), vL (zlbin 3 (zlsh 0 (xs (i + 1).toNat) 32) (zlbin 2 (xs (i + 2).toNat) 4294967295)), vI (xs (i + 3).toNat)]) (r := []) k_138_368 rfl rfl rfl ?_
  refine zC_mono _ _ _ _ _ _ (fun σ1 r1 h1 => ?_) (p_type (d := 0) h )
  obtain ⟨_, _, ⟨v, rfl, _⟩, _⟩ := zC_ex _ _ _ _ _ h1
  refine r_aload k_138_371 rfl ?_
  refine r_aload k_138_372 rfl ?_
  refine r_iload k_138_373 rfl ?_
  refine r_const k_138_374 ?_
  refine r_bin (v := i + 1) k_138_375 (zb_add ⟨by omega, by omega⟩) ?_
  refine r_scr k_138_376 ⟨by omega, by omega⟩ ?_
  refine r_cnv (w := vL (xs (i + 1).toNat)) k_138_377 rfl ?_
  refine r_const k_138_378 ?_
  refine r_lsh (v := zlsh 0 (xs (i + 1).toNat) 32) k_138_380 rfl ?_
  refine r_aload k_138_381 rfl ?_
  refine r_iload k_138_382 rfl ?_
  refine r_const k_138_383 ?_
  refine r_bin (v := i + 2) k_138_384 (zb_add ⟨by omega, by omega⟩) ?_
  refine r_scr k_138_385 ⟨by omega, by omega⟩ ?_
  refine r_cnv (w := vL (xs (i + 2).toNat)) k_138_386 rfl ?_
  refine r_lconst k_138_387 ?_
  refine r_lbin (v := zlbin 2 (xs (i + 2).toNat) 4294967295) k_138_390 rfl ?_
  refine r_lbin (v := zlbin 3 (zlsh 0 (xs (i + 1).toNat) 32) (zlbin 2 (xs (i + 2).toNat) 4294967295)) k_138_391 rfl ?_
  refine r_aload k_138_392 rfl ?_
  refine r_iload k_138_393 rfl ?_
  refine r_const k_138_394 ?_
  refine r_bin (v := i + 3) k_138_395 (zb_add ⟨by omega, by omega⟩) ?_
  refine r_scr k_138_396 ⟨by omega, by omega⟩ ?_
  refine r_call (as := [vR (27), vL (zlbin 3 (zlsh 0 (xs (i + 1).toNat) 32) (zlbin 2 (xs (i + 2).toNat) 4294967295)), vI (xs (i + 3).toNat)]) (r := [vI (v)]) k_138_397 rfl rfl rfl ?_
  refine zC_mono _ _ _ _ _ _ (fun σ2 r2 h2 => ?_) (zC_le h1 36)
  obtain ⟨⟨v2, e1, rfl⟩, hI⟩ := h2
  obtain rfl : v = v2 := by injection e1 with e1; injection e1
  refine r_ic_eq k_138_400 (fun _ => ?_) (fun hz => absurd hz (fun q => q rfl))
  exact ih _ hI
theorem law_7 {sL : Nat} {xs : Nat → Int} {σ : zM} {i : Int} (hxs : ∀ j, zi32 (xs j)) (hsL : sL ≤ 3072) (h : zInv σ) (hi : 0 ≤ i) (hi6 : i + 6 ≤ sL) (ih : ∀ σ2, zInv σ2 → zG 41 138 zLK sL xs (1206, [vR 43, vR 0, vR 27, vI i], [], σ2)) : zG 41 138 zLK sL xs (405, [vR (43), vR (0), vR (27), vI (i)], [], σ) := by
  refine r_aload k_138_405 rfl ?_
  refine r_call (as := [vR (0)]) (r := []) k_138_406 rfl rfl rfl ?_
  refine zC_mono _ _ _ _ _ _ (fun σ1 r1 h1 => ?_) (p_fence (d := 0) h )
  obtain ⟨_, _, ⟨v, rfl, _⟩, _⟩ := zC_ex _ _ _ _ _ h1
  refine r_aload k_138_409 rfl ?_
  refine r_call (as := [vR (27)]) (r := [vI (v)]) k_138_410 rfl rfl rfl ?_
  refine zC_mono _ _ _ _ _ _ (fun σ2 r2 h2 => ?_) (zC_le h1 36)
  obtain ⟨⟨v2, e1, rfl⟩, hI⟩ := h2
  obtain rfl : v = v2 := by injection e1 with e1; injection e1
  refine r_ic_eq k_138_413 (fun _ => ?_) (fun hz => absurd hz (fun q => q rfl))
  exact ih _ hI
theorem law_8 {sL : Nat} {xs : Nat → Int} {σ : zM} {i : Int} (hxs : ∀ j, zi32 (xs j)) (hsL : sL ≤ 3072) (h : zInv σ) (hi : 0 ≤ i) (hi6 : i + 6 ≤ sL) (ih : ∀ σ2, zInv σ2 → zG 41 138 zLK sL xs (1206, [vR 43, vR 0, vR 27, vI i], [], σ2)) : zG 41 138 zLK sL xs (418, [vR (43), vR (0), vR (27), vI (i)], [], σ) := by
  refine r_aload k_138_418 rfl ?_
  refine r_aload k_138_419 rfl ?_
  refine r_iload k_138_420 rfl ?_
  refine r_const k_138_421 ?_
  refine r_bin (v := i + 1) k_138_422 (zb_add ⟨by omega, by omega⟩) ?_
  refine r_scr k_138_423 ⟨by omega, by omega⟩ ?_
  refine r_call (as := [vR (0), vI (xs (i + 1).toNat)]) (r := []) k_138_424 rfl rfl rfl ?_
  refine zC_mono _ _ _ _ _ _ (fun σ1 r1 h1 => ?_) (p_count (d := 0) h )
  obtain ⟨_, _, ⟨v, rfl, _⟩, _⟩ := zC_ex _ _ _ _ _ h1
  refine r_aload k_138_427 rfl ?_
  refine r_aload k_138_428 rfl ?_
  refine r_iload k_138_429 rfl ?_
  refine r_const k_138_430 ?_
  refine r_bin (v := i + 1) k_138_431 (zb_add ⟨by omega, by omega⟩) ?_
  refine r_scr k_138_432 ⟨by omega, by omega⟩ ?_
  refine r_call (as := [vR (27), vI (xs (i + 1).toNat)]) (r := [vI (v)]) k_138_433 rfl rfl rfl ?_
  refine zC_mono _ _ _ _ _ _ (fun σ2 r2 h2 => ?_) (zC_le h1 36)
  obtain ⟨⟨v2, e1, rfl⟩, hI⟩ := h2
  obtain rfl : v = v2 := by injection e1 with e1; injection e1
  refine r_ic_eq k_138_436 (fun _ => ?_) (fun hz => absurd hz (fun q => q rfl))
  exact ih _ hI
theorem law_9 {sL : Nat} {xs : Nat → Int} {σ : zM} {i : Int} (hxs : ∀ j, zi32 (xs j)) (hsL : sL ≤ 3072) (h : zInv σ) (hi : 0 ≤ i) (hi6 : i + 6 ≤ sL) (ih : ∀ σ2, zInv σ2 → zG 41 138 zLK sL xs (1206, [vR 43, vR 0, vR 27, vI i], [], σ2)) : zG 41 138 zLK sL xs (441, [vR (43), vR (0), vR (27), vI (i)], [], σ) := by
  refine r_aload k_138_441 rfl ?_
  refine r_aload k_138_442 rfl ?_
  refine r_iload k_138_443 rfl ?_
  refine r_const k_138_444 ?_
  refine r_bin (v := i + 1) k_138_445 (zb_add ⟨by omega, by omega⟩) ?_
  refine r_scr k_138_446 ⟨by omega, by omega⟩ ?_
  refine r_call (as := [vR (0), vI (xs (i + 1).toNat)]) (r := []) k_138_447 rfl rfl rfl ?_
  refine zC_mono _ _ _ _ _ _ (fun σ1 r1 h1 => ?_) (p_fault (d := 0) h )
  obtain ⟨_, _, ⟨v, rfl, _⟩, _⟩ := zC_ex _ _ _ _ _ h1
  refine r_aload k_138_450 rfl ?_
  refine r_aload k_138_451 rfl ?_
  refine r_iload k_138_452 rfl ?_
  refine r_const k_138_453 ?_
  refine r_bin (v := i + 1) k_138_454 (zb_add ⟨by omega, by omega⟩) ?_
  refine r_scr k_138_455 ⟨by omega, by omega⟩ ?_
  refine r_call (as := [vR (27), vI (xs (i + 1).toNat)]) (r := [vI (v)]) k_138_456 rfl rfl rfl ?_
  refine zC_mono _ _ _ _ _ _ (fun σ2 r2 h2 => ?_) (zC_le h1 36)
  obtain ⟨⟨v2, e1, rfl⟩, hI⟩ := h2
  obtain rfl : v = v2 := by injection e1 with e1; injection e1
  refine r_ic_eq k_138_459 (fun _ => ?_) (fun hz => absurd hz (fun q => q rfl))
  exact ih _ hI
theorem law_10 {sL : Nat} {xs : Nat → Int} {σ : zM} {i : Int} (hxs : ∀ j, zi32 (xs j)) (hsL : sL ≤ 3072) (h : zInv σ) (hi : 0 ≤ i) (hi6 : i + 6 ≤ sL) (ih : ∀ σ2, zInv σ2 → zG 41 138 zLK sL xs (1206, [vR 43, vR 0, vR 27, vI i], [], σ2)) : zG 41 138 zLK sL xs (464, [vR (43), vR (0), vR (27), vI (i)], [], σ) := by
  refine r_aload k_138_464 rfl ?_
  refine r_call (as := [vR (0)]) (r := []) k_138_465 rfl rfl rfl ?_
  refine zC_mono _ _ _ _ _ _ (fun σ1 r1 h1 => ?_) (p_may (d := 0) h )
  obtain ⟨_, _, ⟨v, rfl, _⟩, _⟩ := zC_ex _ _ _ _ _ h1
  refine r_aload k_138_468 rfl ?_
  refine r_call (as := [vR (27)]) (r := [vI (v)]) k_138_469 rfl rfl rfl ?_
  refine zC_mono _ _ _ _ _ _ (fun σ2 r2 h2 => ?_) (zC_le h1 36)
  obtain ⟨⟨v2, e1, rfl⟩, hI⟩ := h2
  obtain rfl : v = v2 := by injection e1 with e1; injection e1
  refine r_ic_eq k_138_472 (fun _ => ?_) (fun hz => absurd hz (fun q => q rfl))
  exact ih _ hI
theorem law_11 {sL : Nat} {xs : Nat → Int} {σ : zM} {i : Int} (hxs : ∀ j, zi32 (xs j)) (hsL : sL ≤ 3072) (h : zInv σ) (hi : 0 ≤ i) (hi6 : i + 6 ≤ sL) (ih : ∀ σ2, zInv σ2 → zG 41 138 zLK sL xs (1206, [vR 43, vR 0, vR 27, vI i], [], σ2)) : zG 41 138 zLK sL xs (477, [vR (43), vR (0), vR (27), vI (i)], [], σ) := by
  refine r_aload k_138_477 rfl ?_
  refine r_aload k_138_478 rfl ?_
  refine r_iload k_138_479 rfl ?_
  refine r_const k_138_480 ?_
  refine r_bin (v := i + 1) k_138_481 (zb_add ⟨by omega, by omega⟩) ?_
  refine r_scr k_138_482 ⟨by omega, by omega⟩ ?_
  refine r_call (as := [vR (0), vI (xs (i + 1).toNat)]) (r := []) k_138_483 rfl rfl rfl ?_
  refine zC_mono _ _ _ _ _ _ (fun σ1 r1 h1 => ?_) (p_kind (d := 0) h )
  obtain ⟨_, _, ⟨v, rfl, _⟩, _⟩ := zC_ex _ _ _ _ _ h1
  refine r_aload k_138_486 rfl ?_
  refine r_aload k_138_487 rfl ?_
  refine r_iload k_138_488 rfl ?_
  refine r_const k_138_489 ?_
  refine r_bin (v := i + 1) k_138_490 (zb_add ⟨by omega, by omega⟩) ?_
  refine r_scr k_138_491 ⟨by omega, by omega⟩ ?_
  refine r_call (as := [vR (27), vI (xs (i + 1).toNat)]) (r := [vI (v)]) k_138_492 rfl rfl rfl ?_
  refine zC_mono _ _ _ _ _ _ (fun σ2 r2 h2 => ?_) (zC_le h1 36)
  obtain ⟨⟨v2, e1, rfl⟩, hI⟩ := h2
  obtain rfl : v = v2 := by injection e1 with e1; injection e1
  refine r_ic_eq k_138_495 (fun _ => ?_) (fun hz => absurd hz (fun q => q rfl))
  exact ih _ hI
theorem law_12 {sL : Nat} {xs : Nat → Int} {σ : zM} {i : Int} (hxs : ∀ j, zi32 (xs j)) (hsL : sL ≤ 3072) (h : zInv σ) (hi : 0 ≤ i) (hi6 : i + 6 ≤ sL) (ih : ∀ σ2, zInv σ2 → zG 41 138 zLK sL xs (1206, [vR 43, vR 0, vR 27, vI i], [], σ2)) : zG 41 138 zLK sL xs (500, [vR (43), vR (0), vR (27), vI (i)], [], σ) := by
  refine r_aload k_138_500 rfl ?_
  refine r_aload k_138_501 rfl ?_
  refine r_iload k_138_502 rfl ?_
  refine r_const k_138_503 ?_
  refine r_bin (v := i + 1) k_138_504 (zb_add ⟨by omega, by omega⟩) ?_
  refine r_scr k_138_505 ⟨by omega, by omega⟩ ?_
  refine r_call (as := [vR (0), vI (xs (i + 1).toNat)]) (r := []) k_138_506 rfl rfl rfl ?_
  refine zC_mono _ _ _ _ _ _ (fun σ1 r1 h1 => ?_) (p_far (d := 0) h )
  obtain ⟨_, _, ⟨v, rfl, _⟩, _⟩ := zC_ex _ _ _ _ _ h1
  refine r_aload k_138_509 rfl ?_
  refine r_aload k_138_510 rfl ?_
  refine r_iload k_138_511 rfl ?_
  refine r_const k_138_512 ?_
  refine r_bin (v := i + 1) k_138_513 (zb_add ⟨by omega, by omega⟩) ?_
  refine r_scr k_138_514 ⟨by omega, by omega⟩ ?_
  refine r_call (as := [vR (27), vI (xs (i + 1).toNat)]) (r := [vI (v)]) k_138_515 rfl rfl rfl ?_
  refine zC_mono _ _ _ _ _ _ (fun σ2 r2 h2 => ?_) (zC_le h1 36)
  obtain ⟨⟨v2, e1, rfl⟩, hI⟩ := h2
  obtain rfl : v = v2 := by injection e1 with e1; injection e1
  refine r_ic_eq k_138_518 (fun _ => ?_) (fun hz => absurd hz (fun q => q rfl))
  exact ih _ hI
theorem law_13 {sL : Nat} {xs : Nat → Int} {σ : zM} {i : Int} (hxs : ∀ j, zi32 (xs j)) (hsL : sL ≤ 3072) (h : zInv σ) (hi : 0 ≤ i) (hi6 : i + 6 ≤ sL) (ih : ∀ σ2, zInv σ2 → zG 41 138 zLK sL xs (1206, [vR 43, vR 0, vR 27, vI i], [], σ2)) : zG 41 138 zLK sL xs (523, [vR (43), vR (0), vR (27), vI (i)], [], σ) := by
  refine r_aload k_138_523 rfl ?_
  refine r_aload k_138_524 rfl ?_
  refine r_iload k_138_525 rfl ?_
  refine r_const k_138_526 ?_
  refine r_bin (v := i + 1) k_138_527 (zb_add ⟨by omega, by omega⟩) ?_
  refine r_scr k_138_528 ⟨by omega, by omega⟩ ?_
  refine r_aload k_138_529 rfl ?_
  refine r_iload k_138_530 rfl ?_
  refine r_const k_138_531 ?_
  refine r_bin (v := i + 2) k_138_532 (zb_add ⟨by omega, by omega⟩) ?_
  refine r_scr k_138_533 ⟨by omega, by omega⟩ ?_
  refine r_call (as := [vR (0), vI (xs (i + 1).toNat), vI (xs (i + 2).toNat)]) (r := []) k_138_534 rfl rfl rfl ?_
  refine zC_mono _ _ _ _ _ _ (fun σ1 r1 h1 => ?_) (p_go (d := 0) h )
  obtain ⟨_, _, ⟨v, rfl, _⟩, _⟩ := zC_ex _ _ _ _ _ h1
  refine r_aload k_138_537 rfl ?_
  refine r_aload k_138_538 rfl ?_
  refine r_iload k_138_539 rfl ?_
  refine r_const k_138_540 ?_
  refine r_bin (v := i + 1) k_138_541 (zb_add ⟨by omega, by omega⟩) ?_
  refine r_scr k_138_542 ⟨by omega, by omega⟩ ?_
  refine r_aload k_138_543 rfl ?_
  refine r_iload k_138_544 rfl ?_
  refine r_const k_138_545 ?_
  refine r_bin (v := i + 2) k_138_546 (zb_add ⟨by omega, by omega⟩) ?_
  refine r_scr k_138_547 ⟨by omega, by omega⟩ ?_
  refine r_call (as := [vR (27), vI (xs (i + 1).toNat), vI (xs (i + 2).toNat)]) (r := [vI (v)]) k_138_548 rfl rfl rfl ?_
  refine zC_mono _ _ _ _ _ _ (fun σ2 r2 h2 => ?_) (zC_le h1 36)
  obtain ⟨⟨v2, e1, rfl⟩, hI⟩ := h2
  obtain rfl : v = v2 := by injection e1 with e1; injection e1
  refine r_ic_eq k_138_551 (fun _ => ?_) (fun hz => absurd hz (fun q => q rfl))
  exact ih _ hI
theorem law_14 {sL : Nat} {xs : Nat → Int} {σ : zM} {i : Int} (hxs : ∀ j, zi32 (xs j)) (hsL : sL ≤ 3072) (h : zInv σ) (hi : 0 ≤ i) (hi6 : i + 6 ≤ sL) (ih : ∀ σ2, zInv σ2 → zG 41 138 zLK sL xs (1206, [vR 43, vR 0, vR 27, vI i], [], σ2)) : zG 41 138 zLK sL xs (556, [vR (43), vR (0), vR (27), vI (i)], [], σ) := by
  refine r_aload k_138_556 rfl ?_
  refine r_aload k_138_557 rfl ?_
  refine r_iload k_138_558 rfl ?_
  refine r_const k_138_559 ?_
  refine r_bin (v := i + 1) k_138_560 (zb_add ⟨by omega, by omega⟩) ?_
  refine r_scr k_138_561 ⟨by omega, by omega⟩ ?_
  refine r_call (as := [vR (0), vI (xs (i + 1).toNat)]) (r := []) k_138_562 rfl rfl rfl ?_
  refine zC_mono _ _ _ _ _ _ (fun σ1 r1 h1 => ?_) (p_less (d := 0) h )
  obtain ⟨_, _, ⟨v, rfl, _⟩, _⟩ := zC_ex _ _ _ _ _ h1
  refine r_aload k_138_565 rfl ?_
  refine r_aload k_138_566 rfl ?_
  refine r_iload k_138_567 rfl ?_
  refine r_const k_138_568 ?_
  refine r_bin (v := i + 1) k_138_569 (zb_add ⟨by omega, by omega⟩) ?_
  refine r_scr k_138_570 ⟨by omega, by omega⟩ ?_
  refine r_call (as := [vR (27), vI (xs (i + 1).toNat)]) (r := [vI (v)]) k_138_571 rfl rfl rfl ?_
  refine zC_mono _ _ _ _ _ _ (fun σ2 r2 h2 => ?_) (zC_le h1 36)
  obtain ⟨⟨v2, e1, rfl⟩, hI⟩ := h2
  obtain rfl : v = v2 := by injection e1 with e1; injection e1
  refine r_ic_eq k_138_574 (fun _ => ?_) (fun hz => absurd hz (fun q => q rfl))
  exact ih _ hI
theorem law_15 {sL : Nat} {xs : Nat → Int} {σ : zM} {i : Int} (hxs : ∀ j, zi32 (xs j)) (hsL : sL ≤ 3072) (h : zInv σ) (hi : 0 ≤ i) (hi6 : i + 6 ≤ sL) (ih : ∀ σ2, zInv σ2 → zG 41 138 zLK sL xs (1206, [vR 43, vR 0, vR 27, vI i], [], σ2)) : zG 41 138 zLK sL xs (579, [vR (43), vR (0), vR (27), vI (i)], [], σ) := by
  refine r_aload k_138_579 rfl ?_
  refine r_aload k_138_580 rfl ?_
  refine r_iload k_138_581 rfl ?_
  refine r_const k_138_582 ?_
  refine r_bin (v := i + 1) k_138_583 (zb_add ⟨by omega, by omega⟩) ?_
  refine r_scr k_138_584 ⟨by omega, by omega⟩ ?_
  refine r_call (as := [vR (0), vI (xs (i + 1).toNat)]) (r := []) k_138_585 rfl rfl rfl ?_
  refine zC_mono _ _ _ _ _ _ (fun σ1 r1 h1 => ?_) (p_many (d := 0) h )
  obtain ⟨_, _, ⟨v, rfl, _⟩, _⟩ := zC_ex _ _ _ _ _ h1
  refine r_aload k_138_588 rfl ?_
  refine r_aload k_138_589 rfl ?_
  refine r_iload k_138_590 rfl ?_
  refine r_const k_138_591 ?_
  refine r_bin (v := i + 1) k_138_592 (zb_add ⟨by omega, by omega⟩) ?_
  refine r_scr k_138_593 ⟨by omega, by omega⟩ ?_
  refine r_call (as := [vR (27), vI (xs (i + 1).toNat)]) (r := [vI (v)]) k_138_594 rfl rfl rfl ?_
  refine zC_mono _ _ _ _ _ _ (fun σ2 r2 h2 => ?_) (zC_le h1 36)
  obtain ⟨⟨v2, e1, rfl⟩, hI⟩ := h2
  obtain rfl : v = v2 := by injection e1 with e1; injection e1
  refine r_ic_eq k_138_597 (fun _ => ?_) (fun hz => absurd hz (fun q => q rfl))
  exact ih _ hI
theorem law_16 {sL : Nat} {xs : Nat → Int} {σ : zM} {i : Int} (hxs : ∀ j, zi32 (xs j)) (hsL : sL ≤ 3072) (h : zInv σ) (hi : 0 ≤ i) (hi6 : i + 6 ≤ sL) (ih : ∀ σ2, zInv σ2 → zG 41 138 zLK sL xs (1206, [vR 43, vR 0, vR 27, vI i], [], σ2)) : zG 41 138 zLK sL xs (602, [vR (43), vR (0), vR (27), vI (i)], [], σ) := by
  refine r_aload k_138_602 rfl ?_
  refine r_aload k_138_603 rfl ?_
  refine r_iload k_138_604 rfl ?_
  refine r_const k_138_605 ?_
  refine r_bin (v := i + 1) k_138_606 (zb_add ⟨by omega, by omega⟩) ?_
  refine r_scr k_138_607 ⟨by omega, by omega⟩ ?_
  refine r_call (as := [vR (0), vI (xs (i + 1).toNat)]) (r := []) k_138_608 rfl rfl rfl ?_
  refine zC_mono _ _ _ _ _ _ (fun σ1 r1 h1 => ?_) (p_rings (d := 0) h )
  obtain ⟨_, _, ⟨v, rfl, _⟩, _⟩ := zC_ex _ _ _ _ _ h1
  refine r_aload k_138_611 rfl ?_
  refine r_aload k_138_612 rfl ?_
  refine r_iload k_138_613 rfl ?_
  refine r_const k_138_614 ?_
  refine r_bin (v := i + 1) k_138_615 (zb_add ⟨by omega, by omega⟩) ?_
  refine r_scr k_138_616 ⟨by omega, by omega⟩ ?_
  refine r_call (as := [vR (27), vI (xs (i + 1).toNat)]) (r := [vI (v)]) k_138_617 rfl rfl rfl ?_
  refine zC_mono _ _ _ _ _ _ (fun σ2 r2 h2 => ?_) (zC_le h1 35)
  obtain ⟨⟨v2, e1, rfl⟩, hI⟩ := h2
  obtain rfl : v = v2 := by injection e1 with e1; injection e1
  refine r_ic_eq k_138_620 (fun _ => ?_) (fun hz => absurd hz (fun q => q rfl))
  exact ih _ hI
theorem law_17 {sL : Nat} {xs : Nat → Int} {σ : zM} {i : Int} (hxs : ∀ j, zi32 (xs j)) (hsL : sL ≤ 3072) (h : zInv σ) (hi : 0 ≤ i) (hi6 : i + 6 ≤ sL) (ih : ∀ σ2, zInv σ2 → zG 41 138 zLK sL xs (1206, [vR 43, vR 0, vR 27, vI i], [], σ2)) : zG 41 138 zLK sL xs (625, [vR (43), vR (0), vR (27), vI (i)], [], σ) := by
  refine r_aload k_138_625 rfl ?_
  refine r_aload k_138_626 rfl ?_
  refine r_iload k_138_627 rfl ?_
  refine r_const k_138_628 ?_
  refine r_bin (v := i + 1) k_138_629 (zb_add ⟨by omega, by omega⟩) ?_
  refine r_scr k_138_630 ⟨by omega, by omega⟩ ?_
  refine r_aload k_138_631 rfl ?_
  refine r_iload k_138_632 rfl ?_
  refine r_const k_138_633 ?_
  refine r_bin (v := i + 2) k_138_634 (zb_add ⟨by omega, by omega⟩) ?_
  refine r_scr k_138_635 ⟨by omega, by omega⟩ ?_
  refine r_call (as := [vR (0), vI (xs (i + 1).toNat), vI (xs (i + 2).toNat)]) (r := []) k_138_636 rfl rfl rfl ?_
  refine zC_mono _ _ _ _ _ _ (fun σ1 r1 h1 => ?_) (p_ring (d := 0) h )
  obtain ⟨_, _, ⟨v, rfl, _⟩, _⟩ := zC_ex _ _ _ _ _ h1
  refine r_aload k_138_639 rfl ?_
  refine r_aload k_138_640 rfl ?_
  refine r_iload k_138_641 rfl ?_
  refine r_const k_138_642 ?_
  refine r_bin (v := i + 1) k_138_643 (zb_add ⟨by omega, by omega⟩) ?_
  refine r_scr k_138_644 ⟨by omega, by omega⟩ ?_
  refine r_aload k_138_645 rfl ?_
  refine r_iload k_138_646 rfl ?_
  refine r_const k_138_647 ?_
  refine r_bin (v := i + 2) k_138_648 (zb_add ⟨by omega, by omega⟩) ?_
  refine r_scr k_138_649 ⟨by omega, by omega⟩ ?_
  refine r_call (as := [vR (27), vI (xs (i + 1).toNat), vI (xs (i + 2).toNat)]) (r := [vI (v)]) k_138_650 rfl rfl rfl ?_
  refine zC_mono _ _ _ _ _ _ (fun σ2 r2 h2 => ?_) (zC_le h1 35)
  obtain ⟨⟨v2, e1, rfl⟩, hI⟩ := h2
  obtain rfl : v = v2 := by injection e1 with e1; injection e1
  refine r_ic_eq k_138_653 (fun _ => ?_) (fun hz => absurd hz (fun q => q rfl))
  exact ih _ hI
theorem law_18 {sL : Nat} {xs : Nat → Int} {σ : zM} {i : Int} (hxs : ∀ j, zi32 (xs j)) (hsL : sL ≤ 3072) (h : zInv σ) (hi : 0 ≤ i) (hi6 : i + 6 ≤ sL) (ih : ∀ σ2, zInv σ2 → zG 41 138 zLK sL xs (1206, [vR 43, vR 0, vR 27, vI i], [], σ2)) : zG 41 138 zLK sL xs (658, [vR (43), vR (0), vR (27), vI (i)], [], σ) := by
  refine r_aload k_138_658 rfl ?_
  refine r_aload k_138_659 rfl ?_
  refine r_iload k_138_660 rfl ?_
  refine r_const k_138_661 ?_
  refine r_bin (v := i + 1) k_138_662 (zb_add ⟨by omega, by omega⟩) ?_
  refine r_scr k_138_663 ⟨by omega, by omega⟩ ?_
  refine r_aload k_138_664 rfl ?_
  refine r_iload k_138_665 rfl ?_
  refine r_const k_138_666 ?_
  refine r_bin (v := i + 2) k_138_667 (zb_add ⟨by omega, by omega⟩) ?_
  refine r_scr k_138_668 ⟨by omega, by omega⟩ ?_
  refine r_call (as := [vR (0), vI (xs (i + 1).toNat), vI (xs (i + 2).toNat)]) (r := []) k_138_669 rfl rfl rfl ?_
  refine zC_mono _ _ _ _ _ _ (fun σ1 r1 h1 => ?_) (p_cheap (d := 0) h )
  obtain ⟨_, _, ⟨v, rfl, _⟩, _⟩ := zC_ex _ _ _ _ _ h1
  refine r_aload k_138_672 rfl ?_
  refine r_aload k_138_673 rfl ?_
  refine r_iload k_138_674 rfl ?_
  refine r_const k_138_675 ?_
  refine r_bin (v := i + 1) k_138_676 (zb_add ⟨by omega, by omega⟩) ?_
  refine r_scr k_138_677 ⟨by omega, by omega⟩ ?_
  refine r_aload k_138_678 rfl ?_
  refine r_iload k_138_679 rfl ?_
  refine r_const k_138_680 ?_
  refine r_bin (v := i + 2) k_138_681 (zb_add ⟨by omega, by omega⟩) ?_
  refine r_scr k_138_682 ⟨by omega, by omega⟩ ?_
  refine r_call (as := [vR (27), vI (xs (i + 1).toNat), vI (xs (i + 2).toNat)]) (r := [vI (v)]) k_138_683 rfl rfl rfl ?_
  refine zC_mono _ _ _ _ _ _ (fun σ2 r2 h2 => ?_) (zC_le h1 35)
  obtain ⟨⟨v2, e1, rfl⟩, hI⟩ := h2
  obtain rfl : v = v2 := by injection e1 with e1; injection e1
  refine r_ic_eq k_138_686 (fun _ => ?_) (fun hz => absurd hz (fun q => q rfl))
  exact ih _ hI
theorem law_19 {sL : Nat} {xs : Nat → Int} {σ : zM} {i : Int} (hxs : ∀ j, zi32 (xs j)) (hsL : sL ≤ 3072) (h : zInv σ) (hi : 0 ≤ i) (hi6 : i + 6 ≤ sL) (ih : ∀ σ2, zInv σ2 → zG 41 138 zLK sL xs (1206, [vR 43, vR 0, vR 27, vI i], [], σ2)) : zG 41 138 zLK sL xs (691, [vR (43), vR (0), vR (27), vI (i)], [], σ) := by
  refine r_aload k_138_691 rfl ?_
  refine r_aload k_138_692 rfl ?_
  refine r_iload k_138_693 rfl ?_
  refine r_const k_138_694 ?_
  refine r_bin (v := i + 1) k_138_695 (zb_add ⟨by omega, by omega⟩) ?_
  refine r_scr k_138_696 ⟨by omega, by omega⟩ ?_
  refine r_call (as := [vR (0), vI (xs (i + 1).toNat)]) (r := []) k_138_697 rfl rfl rfl ?_
  refine zC_mono _ _ _ _ _ _ (fun σ1 r1 h1 => ?_) (p_wins (d := 0) h )
  obtain ⟨_, _, ⟨v, rfl, _⟩, _⟩ := zC_ex _ _ _ _ _ h1
  refine r_aload k_138_700 rfl ?_
  refine r_aload k_138_701 rfl ?_
  refine r_iload k_138_702 rfl ?_
  refine r_const k_138_703 ?_
  refine r_bin (v := i + 1) k_138_704 (zb_add ⟨by omega, by omega⟩) ?_
  refine r_scr k_138_705 ⟨by omega, by omega⟩ ?_
  refine r_call (as := [vR (27), vI (xs (i + 1).toNat)]) (r := [vI (v)]) k_138_706 rfl rfl rfl ?_
  refine zC_mono _ _ _ _ _ _ (fun σ2 r2 h2 => ?_) (zC_le h1 36)
  obtain ⟨⟨v2, e1, rfl⟩, hI⟩ := h2
  obtain rfl : v = v2 := by injection e1 with e1; injection e1
  refine r_ic_eq k_138_709 (fun _ => ?_) (fun hz => absurd hz (fun q => q rfl))
  exact ih _ hI
theorem law_20 {sL : Nat} {xs : Nat → Int} {σ : zM} {i : Int} (hxs : ∀ j, zi32 (xs j)) (hsL : sL ≤ 3072) (h : zInv σ) (hi : 0 ≤ i) (hi6 : i + 6 ≤ sL) (ih : ∀ σ2, zInv σ2 → zG 41 138 zLK sL xs (1206, [vR 43, vR 0, vR 27, vI i], [], σ2)) : zG 41 138 zLK sL xs (714, [vR (43), vR (0), vR (27), vI (i)], [], σ) := by
  refine r_aload k_138_714 rfl ?_
  refine r_aload k_138_715 rfl ?_
  refine r_iload k_138_716 rfl ?_
  refine r_const k_138_717 ?_
  refine r_bin (v := i + 1) k_138_718 (zb_add ⟨by omega, by omega⟩) ?_
  refine r_scr k_138_719 ⟨by omega, by omega⟩ ?_
  refine r_call (as := [vR (0), vI (xs (i + 1).toNat)]) (r := []) k_138_720 rfl rfl rfl ?_
  refine zC_mono _ _ _ _ _ _ (fun σ1 r1 h1 => ?_) (p_tear (d := 0) h )
  obtain ⟨_, _, ⟨v, rfl, _⟩, _⟩ := zC_ex _ _ _ _ _ h1
  refine r_aload k_138_723 rfl ?_
  refine r_aload k_138_724 rfl ?_
  refine r_iload k_138_725 rfl ?_
  refine r_const k_138_726 ?_
  refine r_bin (v := i + 1) k_138_727 (zb_add ⟨by omega, by omega⟩) ?_
  refine r_scr k_138_728 ⟨by omega, by omega⟩ ?_
  refine r_call (as := [vR (27), vI (xs (i + 1).toNat)]) (r := [vI (v)]) k_138_729 rfl rfl rfl ?_
  refine zC_mono _ _ _ _ _ _ (fun σ2 r2 h2 => ?_) (zC_le h1 36)
  obtain ⟨⟨v2, e1, rfl⟩, hI⟩ := h2
  obtain rfl : v = v2 := by injection e1 with e1; injection e1
  refine r_ic_eq k_138_732 (fun _ => ?_) (fun hz => absurd hz (fun q => q rfl))
  exact ih _ hI
theorem law_21 {sL : Nat} {xs : Nat → Int} {σ : zM} {i : Int} (hxs : ∀ j, zi32 (xs j)) (hsL : sL ≤ 3072) (h : zInv σ) (hi : 0 ≤ i) (hi6 : i + 6 ≤ sL) (ih : ∀ σ2, zInv σ2 → zG 41 138 zLK sL xs (1206, [vR 43, vR 0, vR 27, vI i], [], σ2)) : zG 41 138 zLK sL xs (737, [vR (43), vR (0), vR (27), vI (i)], [], σ) := by
  refine r_aload k_138_737 rfl ?_
  refine r_aload k_138_738 rfl ?_
  refine r_iload k_138_739 rfl ?_
  refine r_const k_138_740 ?_
  refine r_bin (v := i + 1) k_138_741 (zb_add ⟨by omega, by omega⟩) ?_
  refine r_scr k_138_742 ⟨by omega, by omega⟩ ?_
  refine r_call (as := [vR (0), vI (xs (i + 1).toNat)]) (r := []) k_138_743 rfl rfl rfl ?_
  refine zC_mono _ _ _ _ _ _ (fun σ1 r1 h1 => ?_) (p_mends (d := 0) h )
  obtain ⟨_, _, ⟨v, rfl, _⟩, _⟩ := zC_ex _ _ _ _ _ h1
  refine r_aload k_138_746 rfl ?_
  refine r_aload k_138_747 rfl ?_
  refine r_iload k_138_748 rfl ?_
  refine r_const k_138_749 ?_
  refine r_bin (v := i + 1) k_138_750 (zb_add ⟨by omega, by omega⟩) ?_
  refine r_scr k_138_751 ⟨by omega, by omega⟩ ?_
  refine r_call (as := [vR (27), vI (xs (i + 1).toNat)]) (r := [vI (v)]) k_138_752 rfl rfl rfl ?_
  refine zC_mono _ _ _ _ _ _ (fun σ2 r2 h2 => ?_) (zC_le h1 36)
  obtain ⟨⟨v2, e1, rfl⟩, hI⟩ := h2
  obtain rfl : v = v2 := by injection e1 with e1; injection e1
  refine r_ic_eq k_138_755 (fun _ => ?_) (fun hz => absurd hz (fun q => q rfl))
  exact ih _ hI
theorem law_22 {sL : Nat} {xs : Nat → Int} {σ : zM} {i : Int} (hxs : ∀ j, zi32 (xs j)) (hsL : sL ≤ 3072) (h : zInv σ) (hi : 0 ≤ i) (hi6 : i + 6 ≤ sL) (ih : ∀ σ2, zInv σ2 → zG 41 138 zLK sL xs (1206, [vR 43, vR 0, vR 27, vI i], [], σ2)) : zG 41 138 zLK sL xs (760, [vR (43), vR (0), vR (27), vI (i)], [], σ) := by
  refine r_aload k_138_760 rfl ?_
  refine r_aload k_138_761 rfl ?_
  refine r_iload k_138_762 rfl ?_
  refine r_const k_138_763 ?_
  refine r_bin (v := i + 1) k_138_764 (zb_add ⟨by omega, by omega⟩) ?_
  refine r_scr k_138_765 ⟨by omega, by omega⟩ ?_
  refine r_aload k_138_766 rfl ?_
  refine r_iload k_138_767 rfl ?_
  refine r_const k_138_768 ?_
  refine r_bin (v := i + 2) k_138_769 (zb_add ⟨by omega, by omega⟩) ?_
  refine r_scr k_138_770 ⟨by omega, by omega⟩ ?_
  refine r_call (as := [vR (0), vI (xs (i + 1).toNat), vI (xs (i + 2).toNat)]) (r := []) k_138_771 rfl rfl rfl ?_
  refine zC_mono _ _ _ _ _ _ (fun σ1 r1 h1 => ?_) (p_replace (d := 0) h )
  obtain ⟨_, _, ⟨v, rfl, _⟩, _⟩ := zC_ex _ _ _ _ _ h1
  refine r_aload k_138_774 rfl ?_
  refine r_aload k_138_775 rfl ?_
  refine r_iload k_138_776 rfl ?_
  refine r_const k_138_777 ?_
  refine r_bin (v := i + 1) k_138_778 (zb_add ⟨by omega, by omega⟩) ?_
  refine r_scr k_138_779 ⟨by omega, by omega⟩ ?_
  refine r_aload k_138_780 rfl ?_
  refine r_iload k_138_781 rfl ?_
  refine r_const k_138_782 ?_
  refine r_bin (v := i + 2) k_138_783 (zb_add ⟨by omega, by omega⟩) ?_
  refine r_scr k_138_784 ⟨by omega, by omega⟩ ?_
  refine r_call (as := [vR (27), vI (xs (i + 1).toNat), vI (xs (i + 2).toNat)]) (r := [vI (v)]) k_138_785 rfl rfl rfl ?_
  refine zC_mono _ _ _ _ _ _ (fun σ2 r2 h2 => ?_) (zC_le h1 36)
  obtain ⟨⟨v2, e1, rfl⟩, hI⟩ := h2
  obtain rfl : v = v2 := by injection e1 with e1; injection e1
  refine r_ic_eq k_138_788 (fun _ => ?_) (fun hz => absurd hz (fun q => q rfl))
  exact ih _ hI
theorem law_23 {sL : Nat} {xs : Nat → Int} {σ : zM} {i : Int} (hxs : ∀ j, zi32 (xs j)) (hsL : sL ≤ 3072) (h : zInv σ) (hi : 0 ≤ i) (hi6 : i + 6 ≤ sL) (ih : ∀ σ2, zInv σ2 → zG 41 138 zLK sL xs (1206, [vR 43, vR 0, vR 27, vI i], [], σ2)) : zG 41 138 zLK sL xs (793, [vR (43), vR (0), vR (27), vI (i)], [], σ) := by
  refine r_aload k_138_793 rfl ?_
  refine r_aload k_138_794 rfl ?_
  refine r_iload k_138_795 rfl ?_
  refine r_const k_138_796 ?_
  refine r_bin (v := i + 1) k_138_797 (zb_add ⟨by omega, by omega⟩) ?_
  refine r_scr k_138_798 ⟨by omega, by omega⟩ ?_
  refine r_call (as := [vR (0), vI (xs (i + 1).toNat)]) (r := []) k_138_799 rfl rfl rfl ?_
  refine zC_mono _ _ _ _ _ _ (fun σ1 r1 h1 => ?_) (p_lots (d := 0) h )
  obtain ⟨_, _, ⟨v, rfl, _⟩, _⟩ := zC_ex _ _ _ _ _ h1
  refine r_aload k_138_802 rfl ?_
  refine r_aload k_138_803 rfl ?_
  refine r_iload k_138_804 rfl ?_
  refine r_const k_138_805 ?_
  refine r_bin (v := i + 1) k_138_806 (zb_add ⟨by omega, by omega⟩) ?_
  refine r_scr k_138_807 ⟨by omega, by omega⟩ ?_
  refine r_call (as := [vR (27), vI (xs (i + 1).toNat)]) (r := [vI (v)]) k_138_808 rfl rfl rfl ?_
  refine zC_mono _ _ _ _ _ _ (fun σ2 r2 h2 => ?_) (zC_le h1 35)
  obtain ⟨⟨v2, e1, rfl⟩, hI⟩ := h2
  obtain rfl : v = v2 := by injection e1 with e1; injection e1
  refine r_ic_eq k_138_811 (fun _ => ?_) (fun hz => absurd hz (fun q => q rfl))
  exact ih _ hI
theorem law_24 {sL : Nat} {xs : Nat → Int} {σ : zM} {i : Int} (hxs : ∀ j, zi32 (xs j)) (hsL : sL ≤ 3072) (h : zInv σ) (hi : 0 ≤ i) (hi6 : i + 6 ≤ sL) (ih : ∀ σ2, zInv σ2 → zG 41 138 zLK sL xs (1206, [vR 43, vR 0, vR 27, vI i], [], σ2)) : zG 41 138 zLK sL xs (816, [vR (43), vR (0), vR (27), vI (i)], [], σ) := by
  refine r_aload k_138_816 rfl ?_
  refine r_aload k_138_817 rfl ?_
  refine r_iload k_138_818 rfl ?_
  refine r_const k_138_819 ?_
  refine r_bin (v := i + 1) k_138_820 (zb_add ⟨by omega, by omega⟩) ?_
  refine r_scr k_138_821 ⟨by omega, by omega⟩ ?_
  refine r_call (as := [vR (0), vI (xs (i + 1).toNat)]) (r := []) k_138_822 rfl rfl rfl ?_
  refine zC_mono _ _ _ _ _ _ (fun σ1 r1 h1 => ?_) (p_seed (d := 0) h (hv := (hxs (i + 1).toNat).2))
  obtain ⟨_, _, ⟨v, rfl, _⟩, _⟩ := zC_ex _ _ _ _ _ h1
  refine r_aload k_138_825 rfl ?_
  refine r_aload k_138_826 rfl ?_
  refine r_iload k_138_827 rfl ?_
  refine r_const k_138_828 ?_
  refine r_bin (v := i + 1) k_138_829 (zb_add ⟨by omega, by omega⟩) ?_
  refine r_scr k_138_830 ⟨by omega, by omega⟩ ?_
  refine r_call (as := [vR (27), vI (xs (i + 1).toNat)]) (r := [vI (v)]) k_138_831 rfl rfl rfl ?_
  refine zC_mono _ _ _ _ _ _ (fun σ2 r2 h2 => ?_) (zC_le h1 36)
  obtain ⟨⟨v2, e1, rfl⟩, hI⟩ := h2
  obtain rfl : v = v2 := by injection e1 with e1; injection e1
  refine r_ic_eq k_138_834 (fun _ => ?_) (fun hz => absurd hz (fun q => q rfl))
  exact ih _ hI
theorem law_25 {sL : Nat} {xs : Nat → Int} {σ : zM} {i : Int} (hxs : ∀ j, zi32 (xs j)) (hsL : sL ≤ 3072) (h : zInv σ) (hi : 0 ≤ i) (hi6 : i + 6 ≤ sL) (ih : ∀ σ2, zInv σ2 → zG 41 138 zLK sL xs (1206, [vR 43, vR 0, vR 27, vI i], [], σ2)) : zG 41 138 zLK sL xs (839, [vR (43), vR (0), vR (27), vI (i)], [], σ) := by
  refine r_aload k_138_839 rfl ?_
  refine r_call (as := [vR (0)]) (r := []) k_138_840 rfl rfl rfl ?_
  refine zC_mono _ _ _ _ _ _ (fun σ1 r1 h1 => ?_) (p_image (d := 0) h )
  obtain ⟨_, _, ⟨v, rfl, _⟩, _⟩ := zC_ex _ _ _ _ _ h1
  refine r_aload k_138_843 rfl ?_
  refine r_call (as := [vR (27)]) (r := [vI (v)]) k_138_844 rfl rfl rfl ?_
  refine zC_mono _ _ _ _ _ _ (fun σ2 r2 h2 => ?_) (zC_le h1 36)
  obtain ⟨⟨v2, e1, rfl⟩, hI⟩ := h2
  obtain rfl : v = v2 := by injection e1 with e1; injection e1
  refine r_ic_eq k_138_847 (fun _ => ?_) (fun hz => absurd hz (fun q => q rfl))
  exact ih _ hI
theorem law_26 {sL : Nat} {xs : Nat → Int} {σ : zM} {i : Int} (hxs : ∀ j, zi32 (xs j)) (hsL : sL ≤ 3072) (h : zInv σ) (hi : 0 ≤ i) (hi6 : i + 6 ≤ sL) (ih : ∀ σ2, zInv σ2 → zG 41 138 zLK sL xs (1206, [vR 43, vR 0, vR 27, vI i], [], σ2)) : zG 41 138 zLK sL xs (852, [vR (43), vR (0), vR (27), vI (i)], [], σ) := by
  refine r_aload k_138_852 rfl ?_
  refine r_call (as := [vR (0)]) (r := []) k_138_853 rfl rfl rfl ?_
  refine zC_mono _ _ _ _ _ _ (fun σ1 r1 h1 => ?_) (p_restore (d := 0) h )
  obtain ⟨_, _, ⟨v, rfl, _⟩, _⟩ := zC_ex _ _ _ _ _ h1
  refine r_aload k_138_856 rfl ?_
  refine r_call (as := [vR (27)]) (r := [vI (v)]) k_138_857 rfl rfl rfl ?_
  refine zC_mono _ _ _ _ _ _ (fun σ2 r2 h2 => ?_) (zC_le h1 36)
  obtain ⟨⟨v2, e1, rfl⟩, hI⟩ := h2
  obtain rfl : v = v2 := by injection e1 with e1; injection e1
  refine r_ic_eq k_138_860 (fun _ => ?_) (fun hz => absurd hz (fun q => q rfl))
  exact ih _ hI
theorem law_27 {sL : Nat} {xs : Nat → Int} {σ : zM} {i : Int} (hxs : ∀ j, zi32 (xs j)) (hsL : sL ≤ 3072) (h : zInv σ) (hi : 0 ≤ i) (hi6 : i + 6 ≤ sL) (ih : ∀ σ2, zInv σ2 → zG 41 138 zLK sL xs (1206, [vR 43, vR 0, vR 27, vI i], [], σ2)) : zG 41 138 zLK sL xs (865, [vR (43), vR (0), vR (27), vI (i)], [], σ) := by
  refine r_aload k_138_865 rfl ?_
  refine r_aload k_138_866 rfl ?_
  refine r_iload k_138_867 rfl ?_
  refine r_const k_138_868 ?_
  refine r_bin (v := i + 1) k_138_869 (zb_add ⟨by omega, by omega⟩) ?_
  refine r_scr k_138_870 ⟨by omega, by omega⟩ ?_
  refine r_aload k_138_871 rfl ?_
  refine r_iload k_138_872 rfl ?_
  refine r_const k_138_873 ?_
  refine r_bin (v := i + 2) k_138_874 (zb_add ⟨by omega, by omega⟩) ?_
  refine r_scr k_138_875 ⟨by omega, by omega⟩ ?_
  refine r_aload k_138_876 rfl ?_
  refine r_iload k_138_877 rfl ?_
  refine r_const k_138_878 ?_
  refine r_bin (v := i + 3) k_138_879 (zb_add ⟨by omega, by omega⟩) ?_
  refine r_scr k_138_880 ⟨by omega, by omega⟩ ?_
  refine r_aload k_138_881 rfl ?_
  refine r_iload k_138_882 rfl ?_
  refine r_const k_138_883 ?_
  refine r_bin (v := i + 4) k_138_884 (zb_add ⟨by omega, by omega⟩) ?_
  refine r_scr k_138_885 ⟨by omega, by omega⟩ ?_
  refine r_aload k_138_886 rfl ?_
  refine r_iload k_138_887 rfl ?_
  refine r_const k_138_888 ?_
  refine r_bin (v := i + 5) k_138_889 (zb_add ⟨by omega, by omega⟩) ?_
  refine r_scr k_138_890 ⟨by omega, by omega⟩ ?_
  refine r_call (as := [vR (0), vI (xs (i + 1).toNat), vI (xs (i + 2).toNat), vI (xs (i + 3).toNat), vI (xs (i + 4).toNat), vI (xs (i + 5).toNat)]) (r := []) k_138_891 rfl rfl rfl ?_
  refine zC_mono _ _ _ _ _ _ (fun σ1 r1 h1 => ?_) (p_storm (d := 0) h (hf1 := (hxs (i + 3).toNat).1) (hf2 := (hxs (i + 3).toNat).2))
  obtain ⟨_, _, ⟨v, rfl, _⟩, _⟩ := zC_ex _ _ _ _ _ h1
  refine r_aload k_138_894 rfl ?_
  refine r_aload k_138_895 rfl ?_
  refine r_iload k_138_896 rfl ?_
  refine r_const k_138_897 ?_
  refine r_bin (v := i + 1) k_138_898 (zb_add ⟨by omega, by omega⟩) ?_
  refine r_scr k_138_899 ⟨by omega, by omega⟩ ?_
  refine r_aload k_138_900 rfl ?_
  refine r_iload k_138_901 rfl ?_
  refine r_const k_138_902 ?_
  refine r_bin (v := i + 2) k_138_903 (zb_add ⟨by omega, by omega⟩) ?_
  refine r_scr k_138_904 ⟨by omega, by omega⟩ ?_
  refine r_aload k_138_905 rfl ?_
  refine r_iload k_138_906 rfl ?_
  refine r_const k_138_907 ?_
  refine r_bin (v := i + 3) k_138_908 (zb_add ⟨by omega, by omega⟩) ?_
  refine r_scr k_138_909 ⟨by omega, by omega⟩ ?_
  refine r_aload k_138_910 rfl ?_
  refine r_iload k_138_911 rfl ?_
  refine r_const k_138_912 ?_
  refine r_bin (v := i + 4) k_138_913 (zb_add ⟨by omega, by omega⟩) ?_
  refine r_scr k_138_914 ⟨by omega, by omega⟩ ?_
  refine r_aload k_138_915 rfl ?_
  refine r_iload k_138_916 rfl ?_
  refine r_const k_138_917 ?_
  refine r_bin (v := i + 5) k_138_918 (zb_add ⟨by omega, by omega⟩) ?_
  refine r_scr k_138_919 ⟨by omega, by omega⟩ ?_
  refine r_call (as := [vR (27), vI (xs (i + 1).toNat), vI (xs (i + 2).toNat), vI (xs (i + 3).toNat), vI (xs (i + 4).toNat), vI (xs (i + 5).toNat)]) (r := [vI (v)]) k_138_920 rfl rfl rfl ?_
  refine zC_mono _ _ _ _ _ _ (fun σ2 r2 h2 => ?_) (zC_le h1 36)
  obtain ⟨⟨v2, e1, rfl⟩, hI⟩ := h2
  obtain rfl : v = v2 := by injection e1 with e1; injection e1
  refine r_ic_eq k_138_923 (fun _ => ?_) (fun hz => absurd hz (fun q => q rfl))
  exact ih _ hI
theorem law_28 {sL : Nat} {xs : Nat → Int} {σ : zM} {i : Int} (hxs : ∀ j, zi32 (xs j)) (hsL : sL ≤ 3072) (h : zInv σ) (hi : 0 ≤ i) (hi6 : i + 6 ≤ sL) (ih : ∀ σ2, zInv σ2 → zG 41 138 zLK sL xs (1206, [vR 43, vR 0, vR 27, vI i], [], σ2)) : zG 41 138 zLK sL xs (928, [vR (43), vR (0), vR (27), vI (i)], [], σ) := by
  refine r_aload k_138_928 rfl ?_
  refine r_aload k_138_929 rfl ?_
  refine r_iload k_138_930 rfl ?_
  refine r_const k_138_931 ?_
  refine r_bin (v := i + 1) k_138_932 (zb_add ⟨by omega, by omega⟩) ?_
  refine r_scr k_138_933 ⟨by omega, by omega⟩ ?_
  refine r_aload k_138_934 rfl ?_
  refine r_iload k_138_935 rfl ?_
  refine r_const k_138_936 ?_
  refine r_bin (v := i + 2) k_138_937 (zb_add ⟨by omega, by omega⟩) ?_
  refine r_scr k_138_938 ⟨by omega, by omega⟩ ?_
  refine r_aload k_138_939 rfl ?_
  refine r_iload k_138_940 rfl ?_
  refine r_const k_138_941 ?_
  refine r_bin (v := i + 3) k_138_942 (zb_add ⟨by omega, by omega⟩) ?_
  refine r_scr k_138_943 ⟨by omega, by omega⟩ ?_
  refine r_aload k_138_944 rfl ?_
  refine r_iload k_138_945 rfl ?_
  refine r_const k_138_946 ?_
  refine r_bin (v := i + 4) k_138_947 (zb_add ⟨by omega, by omega⟩) ?_
  refine r_scr k_138_948 ⟨by omega, by omega⟩ ?_
  refine r_call (as := [vR (0), vI (xs (i + 1).toNat), vI (xs (i + 2).toNat), vI (xs (i + 3).toNat), vI (xs (i + 4).toNat)]) (r := []) k_138_949 rfl rfl rfl ?_
  refine zC_mono _ _ _ _ _ _ (fun σ1 r1 h1 => ?_) (p_build (d := 0) h (hf1 := (hxs (i + 3).toNat).1) (hf2 := (hxs (i + 3).toNat).2))
  obtain ⟨_, _, ⟨v, rfl, _⟩, _⟩ := zC_ex _ _ _ _ _ h1
  refine r_aload k_138_952 rfl ?_
  refine r_aload k_138_953 rfl ?_
  refine r_iload k_138_954 rfl ?_
  refine r_const k_138_955 ?_
  refine r_bin (v := i + 1) k_138_956 (zb_add ⟨by omega, by omega⟩) ?_
  refine r_scr k_138_957 ⟨by omega, by omega⟩ ?_
  refine r_aload k_138_958 rfl ?_
  refine r_iload k_138_959 rfl ?_
  refine r_const k_138_960 ?_
  refine r_bin (v := i + 2) k_138_961 (zb_add ⟨by omega, by omega⟩) ?_
  refine r_scr k_138_962 ⟨by omega, by omega⟩ ?_
  refine r_aload k_138_963 rfl ?_
  refine r_iload k_138_964 rfl ?_
  refine r_const k_138_965 ?_
  refine r_bin (v := i + 3) k_138_966 (zb_add ⟨by omega, by omega⟩) ?_
  refine r_scr k_138_967 ⟨by omega, by omega⟩ ?_
  refine r_aload k_138_968 rfl ?_
  refine r_iload k_138_969 rfl ?_
  refine r_const k_138_970 ?_
  refine r_bin (v := i + 4) k_138_971 (zb_add ⟨by omega, by omega⟩) ?_
  refine r_scr k_138_972 ⟨by omega, by omega⟩ ?_
  refine r_call (as := [vR (27), vI (xs (i + 1).toNat), vI (xs (i + 2).toNat), vI (xs (i + 3).toNat), vI (xs (i + 4).toNat)]) (r := [vI (v)]) k_138_973 rfl rfl rfl ?_
  refine zC_mono _ _ _ _ _ _ (fun σ2 r2 h2 => ?_) (zC_le h1 36)
  obtain ⟨⟨v2, e1, rfl⟩, hI⟩ := h2
  obtain rfl : v = v2 := by injection e1 with e1; injection e1
  refine r_ic_eq k_138_976 (fun _ => ?_) (fun hz => absurd hz (fun q => q rfl))
  exact ih _ hI
theorem law_29 {sL : Nat} {xs : Nat → Int} {σ : zM} {i : Int} (hxs : ∀ j, zi32 (xs j)) (hsL : sL ≤ 3072) (h : zInv σ) (hi : 0 ≤ i) (hi6 : i + 6 ≤ sL) (ih : ∀ σ2, zInv σ2 → zG 41 138 zLK sL xs (1206, [vR 43, vR 0, vR 27, vI i], [], σ2)) : zG 41 138 zLK sL xs (981, [vR (43), vR (0), vR (27), vI (i)], [], σ) := by
  refine r_aload k_138_981 rfl ?_
  refine r_aload k_138_982 rfl ?_
  refine r_iload k_138_983 rfl ?_
  refine r_const k_138_984 ?_
  refine r_bin (v := i + 1) k_138_985 (zb_add ⟨by omega, by omega⟩) ?_
  refine r_scr k_138_986 ⟨by omega, by omega⟩ ?_
  refine r_aload k_138_987 rfl ?_
  refine r_iload k_138_988 rfl ?_
  refine r_const k_138_989 ?_
  refine r_bin (v := i + 2) k_138_990 (zb_add ⟨by omega, by omega⟩) ?_
  refine r_scr k_138_991 ⟨by omega, by omega⟩ ?_
  refine r_aload k_138_992 rfl ?_
  refine r_iload k_138_993 rfl ?_
  refine r_const k_138_994 ?_
  refine r_bin (v := i + 3) k_138_995 (zb_add ⟨by omega, by omega⟩) ?_
  refine r_scr k_138_996 ⟨by omega, by omega⟩ ?_
  refine r_call (as := [vR (0), vI (xs (i + 1).toNat), vI (xs (i + 2).toNat), vI (xs (i + 3).toNat)]) (r := []) k_138_997 rfl rfl rfl ?_
  refine zC_mono _ _ _ _ _ _ (fun σ1 r1 h1 => ?_) (p_film (d := 0) h (hf1 := (hxs (i + 3).toNat).1) (hf2 := (hxs (i + 3).toNat).2))
  obtain ⟨_, _, ⟨v, rfl, _⟩, _⟩ := zC_ex _ _ _ _ _ h1
  refine r_aload k_138_1000 rfl ?_
  refine r_aload k_138_1001 rfl ?_
  refine r_iload k_138_1002 rfl ?_
  refine r_const k_138_1003 ?_
  refine r_bin (v := i + 1) k_138_1004 (zb_add ⟨by omega, by omega⟩) ?_
  refine r_scr k_138_1005 ⟨by omega, by omega⟩ ?_
  refine r_aload k_138_1006 rfl ?_
  refine r_iload k_138_1007 rfl ?_
  refine r_const k_138_1008 ?_
  refine r_bin (v := i + 2) k_138_1009 (zb_add ⟨by omega, by omega⟩) ?_
  refine r_scr k_138_1010 ⟨by omega, by omega⟩ ?_
  refine r_aload k_138_1011 rfl ?_
  refine r_iload k_138_1012 rfl ?_
  refine r_const k_138_1013 ?_
  refine r_bin (v := i + 3) k_138_1014 (zb_add ⟨by omega, by omega⟩) ?_
  refine r_scr k_138_1015 ⟨by omega, by omega⟩ ?_
  refine r_call (as := [vR (27), vI (xs (i + 1).toNat), vI (xs (i + 2).toNat), vI (xs (i + 3).toNat)]) (r := [vI (v)]) k_138_1016 rfl rfl rfl ?_
  refine zC_mono _ _ _ _ _ _ (fun σ2 r2 h2 => ?_) (zC_le h1 36)
  obtain ⟨⟨v2, e1, rfl⟩, hI⟩ := h2
  obtain rfl : v = v2 := by injection e1 with e1; injection e1
  refine r_ic_eq k_138_1019 (fun _ => ?_) (fun hz => absurd hz (fun q => q rfl))
  exact ih _ hI
theorem law_30 {sL : Nat} {xs : Nat → Int} {σ : zM} {i : Int} (hxs : ∀ j, zi32 (xs j)) (hsL : sL ≤ 3072) (h : zInv σ) (hi : 0 ≤ i) (hi6 : i + 6 ≤ sL) (ih : ∀ σ2, zInv σ2 → zG 41 138 zLK sL xs (1206, [vR 43, vR 0, vR 27, vI i], [], σ2)) : zG 41 138 zLK sL xs (1024, [vR (43), vR (0), vR (27), vI (i)], [], σ) := by
  refine r_aload k_138_1024 rfl ?_
  refine r_aload k_138_1025 rfl ?_
  refine r_iload k_138_1026 rfl ?_
  refine r_const k_138_1027 ?_
  refine r_bin (v := i + 1) k_138_1028 (zb_add ⟨by omega, by omega⟩) ?_
  refine r_scr k_138_1029 ⟨by omega, by omega⟩ ?_
  refine r_aload k_138_1030 rfl ?_
  refine r_iload k_138_1031 rfl ?_
  refine r_const k_138_1032 ?_
  refine r_bin (v := i + 2) k_138_1033 (zb_add ⟨by omega, by omega⟩) ?_
  refine r_scr k_138_1034 ⟨by omega, by omega⟩ ?_
  refine r_aload k_138_1035 rfl ?_
  refine r_iload k_138_1036 rfl ?_
  refine r_const k_138_1037 ?_
  refine r_bin (v := i + 3) k_138_1038 (zb_add ⟨by omega, by omega⟩) ?_
  refine r_scr k_138_1039 ⟨by omega, by omega⟩ ?_
  refine r_call (as := [vR (0), vI (xs (i + 1).toNat), vI (xs (i + 2).toNat), vI (xs (i + 3).toNat)]) (r := []) k_138_1040 rfl rfl rfl ?_
  refine zC_mono _ _ _ _ _ _ (fun σ1 r1 h1 => ?_) (p_sheet (d := 0) h )
  obtain ⟨_, _, ⟨v, rfl, _⟩, _⟩ := zC_ex _ _ _ _ _ h1
  refine r_aload k_138_1043 rfl ?_
  refine r_aload k_138_1044 rfl ?_
  refine r_iload k_138_1045 rfl ?_
  refine r_const k_138_1046 ?_
  refine r_bin (v := i + 1) k_138_1047 (zb_add ⟨by omega, by omega⟩) ?_
  refine r_scr k_138_1048 ⟨by omega, by omega⟩ ?_
  refine r_aload k_138_1049 rfl ?_
  refine r_iload k_138_1050 rfl ?_
  refine r_const k_138_1051 ?_
  refine r_bin (v := i + 2) k_138_1052 (zb_add ⟨by omega, by omega⟩) ?_
  refine r_scr k_138_1053 ⟨by omega, by omega⟩ ?_
  refine r_aload k_138_1054 rfl ?_
  refine r_iload k_138_1055 rfl ?_
  refine r_const k_138_1056 ?_
  refine r_bin (v := i + 3) k_138_1057 (zb_add ⟨by omega, by omega⟩) ?_
  refine r_scr k_138_1058 ⟨by omega, by omega⟩ ?_
  refine r_call (as := [vR (27), vI (xs (i + 1).toNat), vI (xs (i + 2).toNat), vI (xs (i + 3).toNat)]) (r := [vI (v)]) k_138_1059 rfl rfl rfl ?_
  refine zC_mono _ _ _ _ _ _ (fun σ2 r2 h2 => ?_) (zC_le h1 36)
  obtain ⟨⟨v2, e1, rfl⟩, hI⟩ := h2
  obtain rfl : v = v2 := by injection e1 with e1; injection e1
  refine r_ic_eq k_138_1062 (fun _ => ?_) (fun hz => absurd hz (fun q => q rfl))
  exact ih _ hI
theorem law_31 {sL : Nat} {xs : Nat → Int} {σ : zM} {i : Int} (hxs : ∀ j, zi32 (xs j)) (hsL : sL ≤ 3072) (h : zInv σ) (hi : 0 ≤ i) (hi6 : i + 6 ≤ sL) (ih : ∀ σ2, zInv σ2 → zG 41 138 zLK sL xs (1206, [vR 43, vR 0, vR 27, vI i], [], σ2)) : zG 41 138 zLK sL xs (1067, [vR (43), vR (0), vR (27), vI (i)], [], σ) := by
  refine r_aload k_138_1067 rfl ?_
  refine r_aload k_138_1068 rfl ?_
  refine r_iload k_138_1069 rfl ?_
  refine r_const k_138_1070 ?_
  refine r_bin (v := i + 1) k_138_1071 (zb_add ⟨by omega, by omega⟩) ?_
  refine r_scr k_138_1072 ⟨by omega, by omega⟩ ?_
  refine r_call (as := [vR (0), vI (xs (i + 1).toNat)]) (r := []) k_138_1073 rfl rfl rfl ?_
  refine zC_mono _ _ _ _ _ _ (fun σ1 r1 h1 => ?_) (p_drop (d := 0) h )
  obtain ⟨_, _, ⟨v, rfl, _⟩, _⟩ := zC_ex _ _ _ _ _ h1
  refine r_aload k_138_1076 rfl ?_
  refine r_aload k_138_1077 rfl ?_
  refine r_iload k_138_1078 rfl ?_
  refine r_const k_138_1079 ?_
  refine r_bin (v := i + 1) k_138_1080 (zb_add ⟨by omega, by omega⟩) ?_
  refine r_scr k_138_1081 ⟨by omega, by omega⟩ ?_
  refine r_call (as := [vR (27), vI (xs (i + 1).toNat)]) (r := [vI (v)]) k_138_1082 rfl rfl rfl ?_
  refine zC_mono _ _ _ _ _ _ (fun σ2 r2 h2 => ?_) (zC_le h1 36)
  obtain ⟨⟨v2, e1, rfl⟩, hI⟩ := h2
  obtain rfl : v = v2 := by injection e1 with e1; injection e1
  refine r_ic_eq k_138_1085 (fun _ => ?_) (fun hz => absurd hz (fun q => q rfl))
  exact ih _ hI
theorem law_32 {sL : Nat} {xs : Nat → Int} {σ : zM} {i : Int} (hxs : ∀ j, zi32 (xs j)) (hsL : sL ≤ 3072) (h : zInv σ) (hi : 0 ≤ i) (hi6 : i + 6 ≤ sL) (ih : ∀ σ2, zInv σ2 → zG 41 138 zLK sL xs (1206, [vR 43, vR 0, vR 27, vI i], [], σ2)) : zG 41 138 zLK sL xs (1090, [vR (43), vR (0), vR (27), vI (i)], [], σ) := by
  refine r_aload k_138_1090 rfl ?_
  refine r_aload k_138_1091 rfl ?_
  refine r_iload k_138_1092 rfl ?_
  refine r_const k_138_1093 ?_
  refine r_bin (v := i + 1) k_138_1094 (zb_add ⟨by omega, by omega⟩) ?_
  refine r_scr k_138_1095 ⟨by omega, by omega⟩ ?_
  refine r_aload k_138_1096 rfl ?_
  refine r_iload k_138_1097 rfl ?_
  refine r_const k_138_1098 ?_
  refine r_bin (v := i + 2) k_138_1099 (zb_add ⟨by omega, by omega⟩) ?_
  refine r_scr k_138_1100 ⟨by omega, by omega⟩ ?_
  refine r_aload k_138_1101 rfl ?_
  refine r_iload k_138_1102 rfl ?_
  refine r_const k_138_1103 ?_
  refine r_bin (v := i + 3) k_138_1104 (zb_add ⟨by omega, by omega⟩) ?_
  refine r_scr k_138_1105 ⟨by omega, by omega⟩ ?_
  refine r_aload k_138_1106 rfl ?_
  refine r_iload k_138_1107 rfl ?_
  refine r_const k_138_1108 ?_
  refine r_bin (v := i + 4) k_138_1109 (zb_add ⟨by omega, by omega⟩) ?_
  refine r_scr k_138_1110 ⟨by omega, by omega⟩ ?_
  refine r_call (as := [vR (0), vI (xs (i + 1).toNat), vI (xs (i + 2).toNat), vI (xs (i + 3).toNat), vI (xs (i + 4).toNat)]) (r := []) k_138_1111 rfl rfl rfl ?_
  refine zC_mono _ _ _ _ _ _ (fun σ1 r1 h1 => ?_) (p_item (d := 0) h (hi1 := (hxs (i + 3).toNat).1) (hi2 := (hxs (i + 3).toNat).2))
  obtain ⟨_, _, ⟨v, rfl, _⟩, _⟩ := zC_ex _ _ _ _ _ h1
  refine r_aload k_138_1114 rfl ?_
  refine r_aload k_138_1115 rfl ?_
  refine r_iload k_138_1116 rfl ?_
  refine r_const k_138_1117 ?_
  refine r_bin (v := i + 1) k_138_1118 (zb_add ⟨by omega, by omega⟩) ?_
  refine r_scr k_138_1119 ⟨by omega, by omega⟩ ?_
  refine r_aload k_138_1120 rfl ?_
  refine r_iload k_138_1121 rfl ?_
  refine r_const k_138_1122 ?_
  refine r_bin (v := i + 2) k_138_1123 (zb_add ⟨by omega, by omega⟩) ?_
  refine r_scr k_138_1124 ⟨by omega, by omega⟩ ?_
  refine r_aload k_138_1125 rfl ?_
  refine r_iload k_138_1126 rfl ?_
  refine r_const k_138_1127 ?_
  refine r_bin (v := i + 3) k_138_1128 (zb_add ⟨by omega, by omega⟩) ?_
  refine r_scr k_138_1129 ⟨by omega, by omega⟩ ?_
  refine r_aload k_138_1130 rfl ?_
  refine r_iload k_138_1131 rfl ?_
  refine r_const k_138_1132 ?_
  refine r_bin (v := i + 4) k_138_1133 (zb_add ⟨by omega, by omega⟩) ?_
  refine r_scr k_138_1134 ⟨by omega, by omega⟩ ?_
  refine r_call (as := [vR (27), vI (xs (i + 1).toNat), vI (xs (i + 2).toNat), vI (xs (i + 3).toNat), vI (xs (i + 4).toNat)]) (r := [vI (v)]) k_138_1135 rfl rfl rfl ?_
  refine zC_mono _ _ _ _ _ _ (fun σ2 r2 h2 => ?_) (zC_le h1 36)
  obtain ⟨⟨v2, e1, rfl⟩, hI⟩ := h2
  obtain rfl : v = v2 := by injection e1 with e1; injection e1
  refine r_ic_eq k_138_1138 (fun _ => ?_) (fun hz => absurd hz (fun q => q rfl))
  exact ih _ hI
theorem law_33 {sL : Nat} {xs : Nat → Int} {σ : zM} {i : Int} (hxs : ∀ j, zi32 (xs j)) (hsL : sL ≤ 3072) (h : zInv σ) (hi : 0 ≤ i) (hi6 : i + 6 ≤ sL) (ih : ∀ σ2, zInv σ2 → zG 41 138 zLK sL xs (1206, [vR 43, vR 0, vR 27, vI i], [], σ2)) : zG 41 138 zLK sL xs (1143, [vR (43), vR (0), vR (27), vI (i)], [], σ) := by
  refine r_aload k_138_1143 rfl ?_
  refine r_aload k_138_1144 rfl ?_
  refine r_iload k_138_1145 rfl ?_
  refine r_const k_138_1146 ?_
  refine r_bin (v := i + 1) k_138_1147 (zb_add ⟨by omega, by omega⟩) ?_
  refine r_scr k_138_1148 ⟨by omega, by omega⟩ ?_
  refine r_aload k_138_1149 rfl ?_
  refine r_iload k_138_1150 rfl ?_
  refine r_const k_138_1151 ?_
  refine r_bin (v := i + 2) k_138_1152 (zb_add ⟨by omega, by omega⟩) ?_
  refine r_scr k_138_1153 ⟨by omega, by omega⟩ ?_
  refine r_aload k_138_1154 rfl ?_
  refine r_iload k_138_1155 rfl ?_
  refine r_const k_138_1156 ?_
  refine r_bin (v := i + 3) k_138_1157 (zb_add ⟨by omega, by omega⟩) ?_
  refine r_scr k_138_1158 ⟨by omega, by omega⟩ ?_
  refine r_aload k_138_1159 rfl ?_
  refine r_iload k_138_1160 rfl ?_
  refine r_const k_138_1161 ?_
  refine r_bin (v := i + 4) k_138_1162 (zb_add ⟨by omega, by omega⟩) ?_
  refine r_scr k_138_1163 ⟨by omega, by omega⟩ ?_
  refine r_aload k_138_1164 rfl ?_
  refine r_iload k_138_1165 rfl ?_
  refine r_const k_138_1166 ?_
  refine r_bin (v := i + 5) k_138_1167 (zb_add ⟨by omega, by omega⟩) ?_
  refine r_scr k_138_1168 ⟨by omega, by omega⟩ ?_
  refine r_call (as := [vR (0), vI (xs (i + 1).toNat), vI (xs (i + 2).toNat), vI (xs (i + 3).toNat), vI (xs (i + 4).toNat), vI (xs (i + 5).toNat)]) (r := []) k_138_1169 rfl rfl rfl ?_
  refine zC_mono _ _ _ _ _ _ (fun σ1 r1 h1 => ?_) (p_copy (d := 0) h (hi := hxs (i + 2).toNat) (hj := hxs (i + 4).toNat) (hn := hxs (i + 5).toNat))
  obtain ⟨_, _, ⟨v, rfl, _⟩, _⟩ := zC_ex _ _ _ _ _ h1
  refine r_aload k_138_1172 rfl ?_
  refine r_aload k_138_1173 rfl ?_
  refine r_iload k_138_1174 rfl ?_
  refine r_const k_138_1175 ?_
  refine r_bin (v := i + 1) k_138_1176 (zb_add ⟨by omega, by omega⟩) ?_
  refine r_scr k_138_1177 ⟨by omega, by omega⟩ ?_
  refine r_aload k_138_1178 rfl ?_
  refine r_iload k_138_1179 rfl ?_
  refine r_const k_138_1180 ?_
  refine r_bin (v := i + 2) k_138_1181 (zb_add ⟨by omega, by omega⟩) ?_
  refine r_scr k_138_1182 ⟨by omega, by omega⟩ ?_
  refine r_aload k_138_1183 rfl ?_
  refine r_iload k_138_1184 rfl ?_
  refine r_const k_138_1185 ?_
  refine r_bin (v := i + 3) k_138_1186 (zb_add ⟨by omega, by omega⟩) ?_
  refine r_scr k_138_1187 ⟨by omega, by omega⟩ ?_
  refine r_aload k_138_1188 rfl ?_
  refine r_iload k_138_1189 rfl ?_
  refine r_const k_138_1190 ?_
  refine r_bin (v := i + 4) k_138_1191 (zb_add ⟨by omega, by omega⟩) ?_
  refine r_scr k_138_1192 ⟨by omega, by omega⟩ ?_
  refine r_aload k_138_1193 rfl ?_
  refine r_iload k_138_1194 rfl ?_
  refine r_const k_138_1195 ?_
  refine r_bin (v := i + 5) k_138_1196 (zb_add ⟨by omega, by omega⟩) ?_
  refine r_scr k_138_1197 ⟨by omega, by omega⟩ ?_
  refine r_call (as := [vR (27), vI (xs (i + 1).toNat), vI (xs (i + 2).toNat), vI (xs (i + 3).toNat), vI (xs (i + 4).toNat), vI (xs (i + 5).toNat)]) (r := [vI (v)]) k_138_1198 rfl rfl rfl ?_
  refine zC_mono _ _ _ _ _ _ (fun σ2 r2 h2 => ?_) (zC_le h1 36)
  obtain ⟨⟨v2, e1, rfl⟩, hI⟩ := h2
  obtain rfl : v = v2 := by injection e1 with e1; injection e1
  refine r_ic_eq k_138_1201 (fun _ => ?_) (fun hz => absurd hz (fun q => q rfl))
  exact ih _ hI
theorem law_sw {sL : Nat} {xs : Nat → Int} {σ : zM} {i : Int} (hxs : ∀ j, zi32 (xs j)) (hsL : sL ≤ 3072) (h : zInv σ) (hi : 0 ≤ i) (hi6 : i + 6 ≤ sL) (ih : ∀ σ2, zInv σ2 → zG 41 138 zLK sL xs (1206, [vR 43, vR 0, vR 27, vI i], [], σ2)) {v : Int} (hv : 0 ≤ v ∧ v < 64) : zG 41 138 zLK sL xs (33, [vR 43, vR 0, vR 27, vI i], [vI v], σ) := by
  by_cases h33 : v ≤ 33
  · obtain ⟨j, rfl⟩ : ∃ j : Nat, v = j := ⟨v.toNat, by omega⟩
    have hj : j ≤ 33 := by omega
    match j, hj with
    | 0, _ => exact r_switch k_138_33 (by decide) (law_0 hxs hsL h hi hi6 ih)
    | 1, _ => exact r_switch k_138_33 (by decide) (law_1 hxs hsL h hi hi6 ih)
    | 2, _ => exact r_switch k_138_33 (by decide) (law_2 hxs hsL h hi hi6 ih)
    | 3, _ => exact r_switch k_138_33 (by decide) (law_3 hxs hsL h hi hi6 ih)
    | 4, _ => exact r_switch k_138_33 (by decide) (law_4 hxs hsL h hi hi6 ih)
    | 5, _ => exact r_switch k_138_33 (by decide) (law_5 hxs hsL h hi hi6 ih)
    | 6, _ => exact r_switch k_138_33 (by decide) (law_6 hxs hsL h hi hi6 ih)
    | 7, _ => exact r_switch k_138_33 (by decide) (law_7 hxs hsL h hi hi6 ih)
    | 8, _ => exact r_switch k_138_33 (by decide) (law_8 hxs hsL h hi hi6 ih)
    | 9, _ => exact r_switch k_138_33 (by decide) (law_9 hxs hsL h hi hi6 ih)
    | 10, _ => exact r_switch k_138_33 (by decide) (law_10 hxs hsL h hi hi6 ih)
    | 11, _ => exact r_switch k_138_33 (by decide) (law_11 hxs hsL h hi hi6 ih)
    | 12, _ => exact r_switch k_138_33 (by decide) (law_12 hxs hsL h hi hi6 ih)
    | 13, _ => exact r_switch k_138_33 (by decide) (law_13 hxs hsL h hi hi6 ih)
    | 14, _ => exact r_switch k_138_33 (by decide) (law_14 hxs hsL h hi hi6 ih)
    | 15, _ => exact r_switch k_138_33 (by decide) (law_15 hxs hsL h hi hi6 ih)
    | 16, _ => exact r_switch k_138_33 (by decide) (law_16 hxs hsL h hi hi6 ih)
    | 17, _ => exact r_switch k_138_33 (by decide) (law_17 hxs hsL h hi hi6 ih)
    | 18, _ => exact r_switch k_138_33 (by decide) (law_18 hxs hsL h hi hi6 ih)
    | 19, _ => exact r_switch k_138_33 (by decide) (law_19 hxs hsL h hi hi6 ih)
    | 20, _ => exact r_switch k_138_33 (by decide) (law_20 hxs hsL h hi hi6 ih)
    | 21, _ => exact r_switch k_138_33 (by decide) (law_21 hxs hsL h hi hi6 ih)
    | 22, _ => exact r_switch k_138_33 (by decide) (law_22 hxs hsL h hi hi6 ih)
    | 23, _ => exact r_switch k_138_33 (by decide) (law_23 hxs hsL h hi hi6 ih)
    | 24, _ => exact r_switch k_138_33 (by decide) (law_24 hxs hsL h hi hi6 ih)
    | 25, _ => exact r_switch k_138_33 (by decide) (law_25 hxs hsL h hi hi6 ih)
    | 26, _ => exact r_switch k_138_33 (by decide) (law_26 hxs hsL h hi hi6 ih)
    | 27, _ => exact r_switch k_138_33 (by decide) (law_27 hxs hsL h hi hi6 ih)
    | 28, _ => exact r_switch k_138_33 (by decide) (law_28 hxs hsL h hi hi6 ih)
    | 29, _ => exact r_switch k_138_33 (by decide) (law_29 hxs hsL h hi hi6 ih)
    | 30, _ => exact r_switch k_138_33 (by decide) (law_30 hxs hsL h hi hi6 ih)
    | 31, _ => exact r_switch k_138_33 (by decide) (law_31 hxs hsL h hi hi6 ih)
    | 32, _ => exact r_switch k_138_33 (by decide) (law_32 hxs hsL h hi hi6 ih)
    | 33, _ => exact r_switch k_138_33 (by decide) (law_33 hxs hsL h hi hi6 ih)
  · exact r_switch k_138_33 (t := 1206) (if_neg (by omega)) (ih σ h)
theorem law_loop {sL : Nat} {xs : Nat → Int} (hxs : ∀ j, zi32 (xs j)) (hsL : sL ≤ 3072) : ∀ (m : Nat) {σ : zM} {i : Int}, zInv σ → 0 ≤ i → i ≤ (sL : Int) + 6 → (sL : Int) + 6 - i ≤ m → zG 41 138 zLK sL xs (18, [vR (43), vR (0), vR (27), vI (i)], [], σ)
  | 0, σ, i, h, hi, hi6, hm => by
    refine r_iload k_138_18 rfl ?_
    refine r_aload k_138_19 rfl ?_
    refine r_slen k_138_20 ?_
    refine r_const k_138_21 ?_
    refine r_bin (v := sL - 6) k_138_23 (zb_sub ⟨by omega, by omega⟩) ?_
    refine r_ic_gt k_138_24 (fun _ => ?_) (fun hz => absurd hz (fun q => by omega))
    refine r_const k_138_1212 ?_
    exact r_zret k_138_1213 (by omega) rfl
  | m + 1, σ, i, h, hi, hi6, hm => by
    refine r_iload k_138_18 rfl ?_
    refine r_aload k_138_19 rfl ?_
    refine r_slen k_138_20 ?_
    refine r_const k_138_21 ?_
    refine r_bin (v := sL - 6) k_138_23 (zb_sub ⟨by omega, by omega⟩) ?_
    refine r_ic_gt k_138_24 (fun h24 => ?_) (fun h24 => ?_)
    · skip
      refine r_const k_138_1212 ?_
      exact r_zret k_138_1213 (by omega) rfl
    · skip
      refine r_aload k_138_27 rfl ?_
      refine r_iload k_138_28 rfl ?_
      refine r_scr k_138_29 ⟨by omega, by omega⟩ ?_
      refine r_const k_138_30 ?_
      refine r_bin (v := (xs i.toNat % 64)) k_138_32 (zand63 _) ?_
      refine law_sw hxs hsL h hi (by omega) (fun σ2 h2 => ?_) ⟨by omega, by omega⟩
      refine r_iinc (v := i + 6) (L' := [vR 43, vR 0, vR 27, vI (i + 6)]) k_138_1206 rfl (zb_add ⟨by omega, by omega⟩) rfl ?_
      refine r_goto k_138_1209 ?_
      exact law_loop hxs hsL m h2 (by omega) (by omega) (by omega)
