/-! image, restore: the two alike -/
theorem zYn_c {a b : Nat → Int} {C : Nat} {law least draw : Int} {l : List Int} {p : Nat → Int} (h : zYn a C law least draw l p) (hl : l.length ≤ 48) (e : ∀ j, j < 57 → b j = a j) : zYn b C law least draw l p := by
  obtain ⟨a0, a1, a2, a3, a4, a5, a6⟩ := h
  exact ⟨(e 0 (by omega)).trans a0, (e 1 (by omega)).trans a1, (e 2 (by omega)).trans a2, (e 3 (by omega)).trans a3, (e 4 (by omega)).trans a4, fun k hk => (e _ (by omega)).trans (a5 k hk), fun k hk => (e _ (by omega)).trans (a6 k hk)⟩
theorem zXk_fr {S A : List Nat} {σ τ : zM} {C : Nat} {law least draw : Int} {l : List Int} {p : Nat → Int} (h : zXk σ C law least draw l p) (hf : zfr S A σ τ) (hS : 7 ∉ S ∧ 8 ∉ S ∧ 9 ∉ S ∧ 1 ∉ S ∧ 11 ∉ S) (hA : 1 ∉ A ∧ 5 ∉ A) : zXk τ C law least draw l p :=
  ⟨⟨(hf.1 7 hS.1).trans h.1.1, (hf.1 8 hS.2.1).trans h.1.2.1, (hf.1 9 hS.2.2.1).trans h.1.2.2⟩, zis_fr h.2.1 hf hS.2.2.2.1 hA.1, fun k hk => by rw [hf.2 5 hA.2]; exact h.2.2.1 k hk, (hf.1 11 hS.2.2.2.2).trans h.2.2.2⟩
theorem zXn_fr {S A : List Nat} {σ τ : zM} {C : Nat} {law least draw : Int} {l : List Int} {p : Nat → Int} (h : zXn σ C law least draw l p) (hf : zfr S A σ τ) (hS : 4 ∉ S ∧ 5 ∉ S ∧ 6 ∉ S ∧ 0 ∉ S ∧ 10 ∉ S) (hA : 0 ∉ A ∧ 4 ∉ A) : zXn τ C law least draw l p :=
  ⟨zrl_fr h.1 hf ⟨hS.1, hS.2.1, hS.2.2.1⟩, zis_fr h.2.1 hf hS.2.2.2.1 hA.1, zpr_fr h.2.2.1 hf hA.2, (hf.1 10 hS.2.2.2.2).trans h.2.2.2⟩
theorem v_tkk {d : Nat} {σ : zM} {K : zM → Option zV → Prop} {C : Nat} {law least draw : Int} {l : List Int} {p : Nat → Int} (hg : zgd C law least draw l p) (hx : zXn σ C law least draw l p) (q1 : ∀ τ, zfr [1, 7, 8, 9, 11] [1, 5] σ τ → zXk τ C law least draw l p → K τ none) : zC (d + 1 + 1) 24 [vR (6), vR (1)] σ K := by
  have hl := hg.2.2.1
  refine zC_in rfl ?_
  show zG (d + 1) 24 K 0 zfx (0, [vR (6), vR (1)], [], σ)
  refine r_aload k_24_0 rfl ?_
  refine r_getR (q := 7) k_24_1 ⟨rfl, rfl⟩ ?_
  refine r_aload k_24_4 rfl ?_
  refine r_getR (q := 2) k_24_5 ⟨rfl, rfl⟩ ?_
  refine r_aload k_24_8 rfl ?_
  refine r_getR (q := 2) k_24_9 ⟨rfl, rfl⟩ ?_
  refine r_getS (v := (l.length : Int)) k_24_12 ⟨rfl, rfl⟩ hx.2.1.1 ?_
  refine r_call (as := [vR (7), vR (2), vI ((l.length : Int))]) (r := []) k_24_15 rfl rfl rfl ?_
  refine s_takel (r := 1) (t := 0) (l := l) (m := l.length) (by decide) (by decide) hx.2.1 (by omega) rfl (Nat.le_refl _) (fun τ1 f1 z1 => ?_)
  rw [List.take_length] at z1
  refine r_aload k_24_18 rfl ?_
  refine r_getR (q := 9) k_24_19 ⟨rfl, rfl⟩ ?_
  refine r_aload k_24_22 rfl ?_
  refine r_getR (q := 4) k_24_23 ⟨rfl, rfl⟩ ?_
  refine r_call (as := [vR (9), vR (4)]) (r := []) k_24_26 rfl rfl rfl ?_
  refine s_rtake_kept (fun τ2 f2 e1 e2 e3 ep => ?_)
  refine r_aload k_24_29 rfl ?_
  refine r_aload k_24_30 rfl ?_
  refine r_getS (v := τ2.1 10) k_24_31 ⟨rfl, rfl⟩ rfl ?_
  refine r_putS k_24_34 ⟨rfl, rfl⟩ ?_
  refine r_vret k_24_37 ?_
  have FA : zfr [1, 7, 8, 9, 11] [1, 5] σ (zsetS τ2 11 (τ2.1 10)) := zfr_S (zfr_tr f1 f2 (by decide) (by decide)) (by decide)
  have z2 := zis_fr z1 f2 (by decide) (by decide)
  have x1 := zXn_fr hx f1 (by decide) (by decide)
  exact q1 _ FA ⟨⟨e1.trans x1.1.1, e2.trans x1.1.2.1, e3.trans x1.1.2.2⟩, ⟨z2.1, z2.2⟩, fun k hk => (ep k hk).trans (x1.2.2.1 k hk), (f2.1 10 (by decide)).trans x1.2.2.2⟩
theorem v_tkn {d : Nat} {σ : zM} {K : zM → Option zV → Prop} {C : Nat} {law least draw : Int} {l : List Int} {p : Nat → Int} (hg : zgd C law least draw l p) (hk : zXk σ C law least draw l p) (q1 : ∀ τ, zfr [0, 4, 5, 6, 10] [0, 4] σ τ → zXn τ C law least draw l p → K τ none) : zC (d + 1 + 1) 24 [vR (1), vR (6)] σ K := by
  have hl := hg.2.2.1
  refine zC_in rfl ?_
  show zG (d + 1) 24 K 0 zfx (0, [vR (1), vR (6)], [], σ)
  refine r_aload k_24_0 rfl ?_
  refine r_getR (q := 2) k_24_1 ⟨rfl, rfl⟩ ?_
  refine r_aload k_24_4 rfl ?_
  refine r_getR (q := 7) k_24_5 ⟨rfl, rfl⟩ ?_
  refine r_aload k_24_8 rfl ?_
  refine r_getR (q := 7) k_24_9 ⟨rfl, rfl⟩ ?_
  refine r_getS (v := (l.length : Int)) k_24_12 ⟨rfl, rfl⟩ hk.2.1.1 ?_
  refine r_call (as := [vR (2), vR (7), vI ((l.length : Int))]) (r := []) k_24_15 rfl rfl rfl ?_
  refine s_takel (r := 0) (t := 1) (l := l) (m := l.length) (by decide) (by decide) hk.2.1 (by omega) rfl (Nat.le_refl _) (fun τ1 f1 z1 => ?_)
  rw [List.take_length] at z1
  refine r_aload k_24_18 rfl ?_
  refine r_getR (q := 4) k_24_19 ⟨rfl, rfl⟩ ?_
  refine r_aload k_24_22 rfl ?_
  refine r_getR (q := 9) k_24_23 ⟨rfl, rfl⟩ ?_
  refine r_call (as := [vR (4), vR (9)]) (r := []) k_24_26 rfl rfl rfl ?_
  refine s_rtake_now (fun τ2 f2 e1 e2 e3 ep => ?_)
  refine r_aload k_24_29 rfl ?_
  refine r_aload k_24_30 rfl ?_
  refine r_getS (v := τ2.1 11) k_24_31 ⟨rfl, rfl⟩ rfl ?_
  refine r_putS k_24_34 ⟨rfl, rfl⟩ ?_
  refine r_vret k_24_37 ?_
  have FA : zfr [0, 4, 5, 6, 10] [0, 4] σ (zsetS τ2 10 (τ2.1 11)) := zfr_S (zfr_tr f1 f2 (by decide) (by decide)) (by decide)
  have z2 := zis_fr z1 f2 (by decide) (by decide)
  have x1 := zXk_fr hk f1 (by decide) (by decide)
  exact q1 _ FA ⟨⟨e1.trans x1.1.1, e2.trans x1.1.2.1, e3.trans x1.1.2.2⟩, ⟨z2.1, z2.2⟩, fun k hk => (ep k hk).trans (x1.2.2.1 k hk), (f2.1 11 (by decide)).trans x1.2.2.2⟩
theorem x_image {d : Nat} {σ : zM} {K : zM → Option zV → Prop} {C : Nat} {law least draw : Int} {l : List Int} {p : Nat → Int} (hg : zgd C law least draw l p) (hx : zXn σ C law least draw l p) (q1 : ∀ τ, zfr [1, 7, 8, 9, 11, 12] [1, 5] σ τ → τ.1 12 = 1 → zXk τ C law least draw l p → K τ (some (vI 1))) : zC (d + 2 + 1) 63 [vR (0)] σ K := by
  have hl := hg.2.2.1
  refine zC_in rfl ?_
  show zG (d + 2) 63 K 0 zfx (0, [vR (0)], [], σ)
  refine r_aload k_63_0 rfl ?_
  refine r_getR (q := 6) k_63_1 ⟨rfl, rfl⟩ ?_
  refine r_aload k_63_4 rfl ?_
  refine r_getR (q := 1) k_63_5 ⟨rfl, rfl⟩ ?_
  refine r_call (as := [vR (6), vR (1)]) (r := []) k_63_8 rfl rfl rfl ?_
  refine v_tkk hg hx (fun τ1 f1 k1 => ?_)
  refine r_aload k_63_11 rfl ?_
  refine r_const k_63_12 ?_
  refine r_putZ k_63_13 ⟨rfl, rfl⟩ (by omega) ?_
  refine r_const k_63_16 ?_
  refine r_iret k_63_17 ?_
  have FA : zfr [1, 7, 8, 9, 11, 12] [1, 5] σ (zsetS τ1 12 1) := zfr_S (zfr_w f1 (by decide) (by decide)) (by decide)
  exact q1 _ FA rfl (zXk_fr k1 (zfr_S (S := [12]) (A := []) zfr_rf (by decide)) (by decide) (by decide))
theorem y_image {d : Nat} {σ : zM} {K : zM → Option zV → Prop} (q1 : ∀ τ, zfr [22] [13] σ τ → τ.1 22 = 1 → (∀ j, j < 57 → τ.2 13 j = σ.2 12 j) → K τ (some (vI 1))) : zC (d + 1) 117 [vR (27)] σ K := by
  refine zC_in rfl ?_
  have lp : ∀ (n : Nat) (k : Nat) (τ : zM), 57 - k = n → k ≤ 57 → zfr [] [13] σ τ → (∀ j, j < k → τ.2 13 j = σ.2 12 j) → zG (d) 117 K 0 zfx (2, [vR (27), vI ((k : Int))], [], τ) := by
    intro n
    induction n using Nat.strongRecOn with
    | _ n ih =>
    intro k τ hn g1 hf ha
    refine r_iload k_117_2 rfl ?_
    refine r_const k_117_3 ?_
    refine r_ic_ge k_117_5 (fun h5 => ?_) (fun h5 => ?_)
    · skip
      refine r_aload k_117_26 rfl ?_
      refine r_const k_117_27 ?_
      refine r_putZ k_117_28 ⟨rfl, rfl⟩ (by omega) ?_
      refine r_const k_117_31 ?_
      refine r_iret k_117_32 ?_
      exact q1 _ (zfr_S (zfr_w hf (by decide) (by decide)) (by decide)) rfl (fun j hj => ha j (by omega))
    · skip
      refine r_aload k_117_8 rfl ?_
      refine r_getR (q := 29) k_117_9 ⟨rfl, rfl⟩ ?_
      refine r_iload k_117_12 rfl ?_
      refine r_aload k_117_13 rfl ?_
      refine r_getR (q := 28) k_117_14 ⟨rfl, rfl⟩ ?_
      refine r_iload k_117_17 rfl ?_
      refine r_iald (v := (σ.2 12 k)) k_117_18 ⟨rfl, rfl⟩ ⟨by omega, by omega⟩ (by rw [hf.2 12 (by decide), show ((k : Nat) : Int).toNat = k by omega]) ?_
      refine r_iast k_117_19 ⟨rfl, rfl⟩ ⟨by omega, by omega⟩ ?_
      refine r_iinc (v := (k : Int) + 1) (L' := [vR (27), vI ((k : Int) + 1)]) k_117_20 rfl (zb_add ⟨by omega, by omega⟩) rfl ?_
      refine r_goto k_117_23 ?_
      refine ih _ (by omega) (k + 1) _ rfl (by omega) (zfr_A hf (by decide)) (fun j hj => ?_)
      rw [zA_2, show ((k : Nat) : Int).toNat = k by omega]
      by_cases hjk : j = k
      · subst hjk; exact zup_1 _ _ _
      · rw [zup_n hjk]; exact ha j (by omega)
  show zG (d) 117 K 0 zfx (0, [vR (27), vU], [], σ)
  refine r_const k_117_0 ?_
  refine r_istore (L' := [vR (27), vI (0)]) k_117_1 rfl ?_
  exact lp _ 0 σ rfl (by omega) zfr_rf (fun j hj => by omega)
theorem y_restore {d : Nat} {σ : zM} {K : zM → Option zV → Prop} (h1 : σ.1 22 = 1) (q1 : ∀ τ, zfr [] [12] σ τ → (∀ j, j < 57 → τ.2 12 j = σ.2 13 j) → K τ (some (vI 1))) : zC (d + 1) 118 [vR (27)] σ K := by
  refine zC_in rfl ?_
  have lp : ∀ (n : Nat) (k : Nat) (τ : zM), 57 - k = n → k ≤ 57 → zfr [] [12] σ τ → (∀ j, j < k → τ.2 12 j = σ.2 13 j) → zG (d) 118 K 0 zfx (12, [vR (27), vI ((k : Int))], [], τ) := by
    intro n
    induction n using Nat.strongRecOn with
    | _ n ih =>
    intro k τ hn g1 hf ha
    refine r_iload k_118_12 rfl ?_
    refine r_const k_118_13 ?_
    refine r_ic_ge k_118_15 (fun h15 => ?_) (fun h15 => ?_)
    · skip
      refine r_const k_118_36 ?_
      refine r_iret k_118_37 ?_
      exact q1 _ hf (fun j hj => ha j (by omega))
    · skip
      refine r_aload k_118_18 rfl ?_
      refine r_getR (q := 28) k_118_19 ⟨rfl, rfl⟩ ?_
      refine r_iload k_118_22 rfl ?_
      refine r_aload k_118_23 rfl ?_
      refine r_getR (q := 29) k_118_24 ⟨rfl, rfl⟩ ?_
      refine r_iload k_118_27 rfl ?_
      refine r_iald (v := (σ.2 13 k)) k_118_28 ⟨rfl, rfl⟩ ⟨by omega, by omega⟩ (by rw [hf.2 13 (by decide), show ((k : Nat) : Int).toNat = k by omega]) ?_
      refine r_iast k_118_29 ⟨rfl, rfl⟩ ⟨by omega, by omega⟩ ?_
      refine r_iinc (v := (k : Int) + 1) (L' := [vR (27), vI ((k : Int) + 1)]) k_118_30 rfl (zb_add ⟨by omega, by omega⟩) rfl ?_
      refine r_goto k_118_33 ?_
      refine ih _ (by omega) (k + 1) _ rfl (by omega) (zfr_A hf (by decide)) (fun j hj => ?_)
      rw [zA_2, show ((k : Nat) : Int).toNat = k by omega]
      by_cases hjk : j = k
      · subst hjk; exact zup_1 _ _ _
      · rw [zup_n hjk]; exact ha j (by omega)
  show zG (d) 118 K 0 zfx (0, [vR (27), vU], [], σ)
  refine r_aload k_118_0 rfl ?_
  refine r_getS (v := σ.1 22) k_118_1 ⟨rfl, rfl⟩ rfl ?_
  refine r_if_ne k_118_4 (fun _ => ?_) (fun hz => absurd hz (by omega))
  refine r_const k_118_10 ?_
  refine r_istore (L' := [vR (27), vI (0)]) k_118_11 rfl ?_
  exact lp _ 0 σ rfl (by omega) zfr_rf (fun j hj => by omega)
theorem p_image {d : Nat} {σ : zM} (h : zInv σ) : zC (d + 41) 63 [vR 0] σ (fun σ1 r1 => zC (d + 5) 117 [vR 27] σ1 (zpq σ1 r1)) := by
  obtain ⟨C, law, least, draw, l, p, hg, hx, hy⟩ := h.1
  refine x_image (d := d + 38) hg hx (fun τ f e1 k1 => y_image (d := d + 4) (fun υ f2 e2 c2 => ⟨⟨_, rfl, rfl⟩, ?_⟩))
  have hy2 : zYn (τ.2 12) C law least draw l p := by rw [f.2 12 (by decide)]; exact hy
  have F : zfr [1, 7, 8, 9, 11, 12, 22] [1, 5, 13] σ υ := zfr_tr f f2 (by decide) (by decide)
  exact ⟨zIn_fr h.1 F (by decide) (by decide), Or.inr ⟨(f2.1 12 (by decide)).trans e1, e2, C, law, least, draw, l, p, hg, zXk_fr k1 f2 (by decide) (by decide), zYn_c hy2 hg.2.2.1 c2⟩, zIt_fr h.2.2.1 F (by decide) (by decide), zIh_fr h.2.2.2 F (by decide) (by decide)⟩
theorem x_restore0 {d : Nat} {σ : zM} {K : zM → Option zV → Prop} (h0 : σ.1 12 = 0) (q1 : K σ (some (vI (-4)))) : zC (d + 1) 64 [vR (0)] σ K := by
  refine zC_in rfl ?_
  show zG (d) 64 K 0 zfx (0, [vR (0)], [], σ)
  refine r_aload k_64_0 rfl ?_
  refine r_getS (v := σ.1 12) k_64_1 ⟨rfl, rfl⟩ rfl ?_
  refine r_if_ne k_64_4 (fun hz => absurd hz (by omega)) (fun _ => ?_)
  refine r_const k_64_7 ?_
  refine r_iret k_64_9 ?_
  exact q1
theorem y_restore0 {d : Nat} {σ : zM} {K : zM → Option zV → Prop} (h0 : σ.1 22 = 0) (q1 : K σ (some (vI (-4)))) : zC (d + 1) 118 [vR (27)] σ K := by
  refine zC_in rfl ?_
  show zG (d) 118 K 0 zfx (0, [vR (27), vU], [], σ)
  refine r_aload k_118_0 rfl ?_
  refine r_getS (v := σ.1 22) k_118_1 ⟨rfl, rfl⟩ rfl ?_
  refine r_if_ne k_118_4 (fun hz => absurd hz (by omega)) (fun _ => ?_)
  refine r_const k_118_7 ?_
  refine r_iret k_118_9 ?_
  exact q1
theorem x_restore {d : Nat} {σ : zM} {K : zM → Option zV → Prop} {C : Nat} {law least draw : Int} {l : List Int} {p : Nat → Int} (hg : zgd C law least draw l p) (hk : zXk σ C law least draw l p) (h1 : σ.1 12 = 1) (q1 : ∀ τ, zfr [0, 4, 5, 6, 10] [0, 4] σ τ → zXn τ C law least draw l p → K τ (some (vI 1))) : zC (d + 2 + 1) 64 [vR (0)] σ K := by
  have hl := hg.2.2.1
  refine zC_in rfl ?_
  show zG (d + 2) 64 K 0 zfx (0, [vR (0)], [], σ)
  refine r_aload k_64_0 rfl ?_
  refine r_getS (v := σ.1 12) k_64_1 ⟨rfl, rfl⟩ rfl ?_
  refine r_if_ne k_64_4 (fun _ => ?_) (fun hz => absurd hz (by omega))
  refine r_aload k_64_10 rfl ?_
  refine r_getR (q := 1) k_64_11 ⟨rfl, rfl⟩ ?_
  refine r_aload k_64_14 rfl ?_
  refine r_getR (q := 6) k_64_15 ⟨rfl, rfl⟩ ?_
  refine r_call (as := [vR (1), vR (6)]) (r := []) k_64_18 rfl rfl rfl ?_
  refine v_tkn hg hk (fun τ1 f1 k1 => ?_)
  refine r_const k_64_21 ?_
  refine r_iret k_64_22 ?_
  exact q1 _ f1 k1
theorem p_restore {d : Nat} {σ : zM} (h : zInv σ) : zC (d + 41) 64 [vR 0] σ (fun σ1 r1 => zC (d + 5) 118 [vR 27] σ1 (zpq σ1 r1)) := by
  rcases h.2.1 with ⟨h1, h2⟩ | ⟨h1, h2, C, law, least, draw, l, p, hg, hk, hy⟩
  · exact x_restore0 (d := d + 40) h1 (y_restore0 (d := d + 4) h2 ⟨⟨_, rfl, rfl⟩, h⟩)
  · refine x_restore (d := d + 38) hg hk h1 (fun τ f k1 => y_restore (d := d + 4) ((f.1 22 (by decide)).trans h2) (fun υ f2 c2 => ⟨⟨_, rfl, rfl⟩, ?_⟩))
    have F : zfr [0, 4, 5, 6, 10] [0, 4, 12] σ υ := zfr_tr f f2 (by decide) (by decide)
    exact ⟨⟨C, law, least, draw, l, p, hg, zXn_fr k1 f2 (by decide) (by decide), zYn_c hy hg.2.2.1 (fun j hj => (c2 j hj).trans (by rw [f.2 13 (by decide)]))⟩, zIk_fr h.2.1 F (by decide) (by decide), zIt_fr h.2.2.1 F (by decide) (by decide), zIh_fr h.2.2.2 F (by decide) (by decide)⟩
