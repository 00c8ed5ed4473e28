/-! replace: the two alike -/
theorem y_isColour {d : Nat} {σ : zM} {K : zM → Option zV → Prop} {C : Nat} {law least draw : Int} {l : List Int} {p : Nat → Int} (hg : zgd C law least draw l p) (hy : zYn (σ.2 12) C law least draw l p) {i : Int} (q1 : 0 ≤ i → i < C → K σ (some (vI 1))) (q2 : ¬ (0 ≤ i ∧ i < C) → K σ (some (vI 0))) : zC (d + 2) 86 [vR 27, vI i] σ K := by
  have hC := hg.1.1
  have hC4 := hg.1.2.1
  refine zC_in rfl ?_
  show zG (d + 1) 86 K 0 zfx (0, [vR 27, vI i], [], σ)
  refine r_iload k_86_0 rfl ?_
  refine r_cnv (w := vL (i)) k_86_1 rfl ?_
  refine r_lconst k_86_2 ?_
  refine r_aload k_86_3 rfl ?_
  refine r_getR (q := 28) k_86_4 ⟨rfl, rfl⟩ ?_
  refine r_const k_86_7 ?_
  refine r_iald (v := (C : Int)) k_86_8 ⟨rfl, rfl⟩ ⟨by decide, by decide⟩ hy.1 ?_
  refine r_const k_86_9 ?_
  refine r_bin (v := (C : Int) - 1) k_86_10 (zb_sub ⟨by omega, by omega⟩) ?_
  refine r_cnv (w := vL ((C : Int) - 1)) k_86_11 rfl ?_
  refine r_call (as := [vL (i), vL (0), vL ((C : Int) - 1)]) (r := []) k_86_12 rfl rfl rfl ?_
  refine t_in (fun g12 => ?_) (fun g12 => ?_)
  · skip
    refine r_zret k_86_15 (by omega) ?_
    exact q1 (by omega) (by omega)
  · skip
    refine r_zret k_86_15 (by omega) ?_
    exact q2 (by omega)
theorem x_replace {d : Nat} {σ : zM} {K : zM → Option zV → Prop} {C : Nat} {law least draw : Int} {l : List Int} {p : Nat → Int} (hg : zgd C law least draw l p) (hx : zXn σ C law least draw l p) {i c : Int} (q1 : ¬ ((0 ≤ i ∧ i < l.length) ∧ 0 ≤ c ∧ c < C) → K σ (some (vI (-1)))) (q2 : ∀ k : Nat, i = k → k < l.length → 0 ≤ c → c < C → ∀ τ, zfr [] [0] σ τ → zis τ 0 (l.set k c) → K τ (some (vI (zlf l k)))) : zC (d + 1 + 1) 59 [vR (0), vI (i), vI (c)] σ K := by
  have hl := hg.2.2.1
  refine zC_in rfl ?_
  show zG (d + 1) 59 K 0 zfx (0, [vR (0), vI (i), vI (c), vU], [], σ)
  refine r_aload k_59_0 rfl ?_
  refine r_getR (q := 1) k_59_1 ⟨rfl, rfl⟩ ?_
  refine r_getR (q := 2) k_59_4 ⟨rfl, rfl⟩ ?_
  refine r_iload k_59_7 rfl ?_
  refine r_call (as := [vR (2), vI (i)]) (r := []) k_59_8 rfl rfl rfl ?_
  refine s_has (r := 0) (by decide) (fun g8 e8 => ?_) (fun g8 => ?_)
  · skip
    rw [hx.2.1.1] at e8
    refine r_if_eq k_59_11 (fun hz => absurd hz (by decide)) (fun _ => ?_)
    refine r_aload k_59_14 rfl ?_
    refine r_getR (q := 1) k_59_15 ⟨rfl, rfl⟩ ?_
    refine r_getR (q := 4) k_59_18 ⟨rfl, rfl⟩ ?_
    refine r_iload k_59_21 rfl ?_
    refine r_call (as := [vR (4), vI (c)]) (r := []) k_59_22 rfl rfl rfl ?_
    refine s_hasCol (fun g22 e22 => ?_) (fun g22 => ?_)
    · skip
      rw [hx.1.1] at e22
      refine r_if_ne k_59_25 (fun _ => ?_) (fun hz => absurd hz (by decide))
      refine r_aload k_59_30 rfl ?_
      refine r_getR (q := 1) k_59_31 ⟨rfl, rfl⟩ ?_
      refine r_getR (q := 2) k_59_34 ⟨rfl, rfl⟩ ?_
      refine r_iload k_59_37 rfl ?_
      refine r_call (as := [vR (2), vI (i)]) (r := []) k_59_38 rfl rfl rfl ?_
      refine v_at (r := 0) (l := l) (k := i.toNat) (by decide) hx.2.1 (by omega) (by omega) (by omega) ?_
      refine r_istore (L' := [vR (0), vI (i), vI (c), vI ((zlf l i.toNat))]) k_59_41 rfl ?_
      refine r_aload k_59_42 rfl ?_
      refine r_getR (q := 1) k_59_43 ⟨rfl, rfl⟩ ?_
      refine r_getR (q := 2) k_59_46 ⟨rfl, rfl⟩ ?_
      refine r_iload k_59_49 rfl ?_
      refine r_iload k_59_50 rfl ?_
      refine r_call (as := [vR (2), vI (i), vI (c)]) (r := []) k_59_51 rfl rfl rfl ?_
      refine v_put (r := 0) (l := l) (k := i.toNat) (c := c) (by decide) hx.2.1 (by omega) (by omega) (by omega) (fun τ1 f1 z1 => ?_)
      refine r_iload k_59_54 rfl ?_
      refine r_iret k_59_55 ?_
      exact q2 i.toNat (by omega) (by omega) (by omega) (by omega) _ f1 z1
    · skip
      rw [hx.1.1] at g22
      refine r_if_ne k_59_25 (fun hz => absurd hz (by decide)) (fun _ => ?_)
      refine r_const k_59_28 ?_
      refine r_iret k_59_29 ?_
      exact q1 (by omega)
  · skip
    rw [hx.2.1.1] at g8
    refine r_if_eq k_59_11 (fun _ => ?_) (fun hz => absurd hz (by decide))
    refine r_const k_59_28 ?_
    refine r_iret k_59_29 ?_
    exact q1 (by omega)
theorem y_replace {d : Nat} {σ : zM} {K : zM → Option zV → Prop} {C : Nat} {law least draw : Int} {l : List Int} {p : Nat → Int} (hg : zgd C law least draw l p) (hy : zYn (σ.2 12) C law least draw l p) {i c : Int} (q1 : ¬ ((0 ≤ i ∧ i < l.length) ∧ 0 ≤ c ∧ c < C) → K σ (some (vI (-1)))) (q2 : ∀ k : Nat, i = k → k < l.length → 0 ≤ c → c < C → K (zsetA σ 12 (zup (σ.2 12) (9 + k) c)) (some (vI (zlf l k)))) : zC (d + 2 + 1) 114 [vR (27), vI (i), vI (c)] σ K := by
  have hl := hg.2.2.1
  refine zC_in rfl ?_
  show zG (d + 2) 114 K 0 zfx (0, [vR (27), vI (i), vI (c)], [], σ)
  refine r_aload k_114_0 rfl ?_
  refine r_iload k_114_1 rfl ?_
  refine r_call (as := [vR (27), vI (i)]) (r := []) k_114_2 rfl rfl rfl ?_
  refine y_isPale hg hy (fun g2 e2 => ?_) (fun g2 => ?_)
  · skip
    refine r_if_eq k_114_5 (fun hz => absurd hz (by decide)) (fun _ => ?_)
    refine r_aload k_114_8 rfl ?_
    refine r_iload k_114_9 rfl ?_
    refine r_call (as := [vR (27), vI (c)]) (r := []) k_114_10 rfl rfl rfl ?_
    refine y_isColour hg hy (fun g10 e10 => ?_) (fun g10 => ?_)
    · skip
      refine r_if_eq k_114_13 (fun hz => absurd hz (by decide)) (fun _ => ?_)
      refine r_aload k_114_16 rfl ?_
      refine r_const k_114_17 ?_
      refine r_iload k_114_19 rfl ?_
      refine r_bin (v := 9 + i) k_114_20 (zb_add ⟨by omega, by omega⟩) ?_
      refine r_iload k_114_21 rfl ?_
      refine r_call (as := [vR (27), vI (9 + i), vI (c)]) (r := []) k_114_22 rfl rfl rfl ?_
      refine y_changed (k := 9 + i.toNat) (was := zlf l i.toNat) (by omega) (by omega) (hy.2.2.2.2.2.2 _ (by omega)) ?_
      refine r_goto k_114_25 ?_
      refine r_iret k_114_29 ?_
      exact q2 i.toNat (by omega) (by omega) (by omega) (by omega)
    · skip
      refine r_if_eq k_114_13 (fun _ => ?_) (fun hz => absurd hz (by decide))
      refine r_const k_114_28 ?_
      refine r_iret k_114_29 ?_
      exact q1 (by omega)
  · skip
    refine r_if_eq k_114_5 (fun _ => ?_) (fun hz => absurd hz (by decide))
    refine r_const k_114_28 ?_
    refine r_iret k_114_29 ?_
    exact q1 (by omega)
theorem p_replace {d : Nat} {σ : zM} (h : zInv σ) {i c : Int} : zC (d + 41) 59 [vR 0, vI i, vI c] σ (fun σ1 r1 => zC (d + 5) 114 [vR 27, vI i, vI c] σ1 (zpq σ1 r1)) := by
  obtain ⟨C, law, least, draw, l, p, hg, hx, hy⟩ := h.1
  refine x_replace (d := d + 39) hg hx (fun q => y_replace (d := d + 2) hg hy (fun _ => ⟨⟨_, rfl, rfl⟩, h⟩) (fun k e1 e2 e3 e4 => absurd ⟨⟨by omega, by omega⟩, e3, e4⟩ q)) (fun k e1 e2 e3 e4 τ f z => ?_)
  have hy2 : zYn (τ.2 12) C law least draw l p := by rw [f.2 12 (by decide)]; exact hy
  refine y_replace (d := d + 2) hg hy2 (fun q => absurd ⟨⟨by omega, by omega⟩, e3, e4⟩ q) (fun k2 e5 e6 _ _ => ?_)
  obtain rfl : k2 = k := by omega
  refine ⟨⟨_, rfl, rfl⟩, ?_⟩
  have f2 : zfr [] [0, 12] σ (zsetA τ 12 (zup (τ.2 12) (9 + k2) c)) := zfr_A (zfr_w f (by decide) (by decide)) (by decide)
  refine ⟨⟨C, law, least, draw, l.set k2 c, p, ⟨hg.1, hg.2.1, by rw [List.length_set]; exact hg.2.2.1, fun x hx0 => ?_, hg.2.2.2.2⟩, ⟨zrl_fr hx.1 f2 (by decide), ⟨z.1, z.2⟩, zpr_fr hx.2.2.1 f2 (by decide), (f2.1 10 (by decide)).trans hx.2.2.2⟩, ?_⟩, zOth_fr h.2 f2 (by decide) (by decide)⟩
  · rcases List.mem_or_eq_of_mem_set hx0 with q | q
    · exact hg.2.2.2.1 x q
    · rw [q]; exact ⟨e3, e4⟩
  rw [zA_2]
  obtain ⟨a0, a1, a2, a3, a4, a5, a6⟩ := hy2
  refine ⟨?_, ?_, ?_, ?_, ?_, fun k hk => ?_, fun k hk => ?_⟩
  · rw [zup_n (by omega)]; exact a0
  · rw [zup_n (by omega)]; exact a1
  · rw [zup_n (by omega)]; exact a2
  · rw [zup_n (by omega)]; exact a3
  · rw [zup_n (by omega), List.length_set]; exact a4
  · rw [zup_n (by omega)]; exact a5 k hk
  · rw [List.length_set] at hk
    by_cases hkk : k = k2
    · subst hkk; rw [zup_1, zlf_set_e hk]
    · rw [zup_n (by omega), zlf_set_n hkk]; exact a6 k hk
