/-! may, pale: the two alike -/
theorem x_may {d : Nat} {σ : zM} {K : zM → Option zV → Prop} {C : Nat} {law least draw : Int} {l : List Int} {p : Nat → Int} (hg : zgd C law least draw l p) (hx : zXn σ C law least draw l p) (q1 : ∀ τ, zfr [2] [2] σ τ → K τ (some (vI (zmay C law least l)))) : zC (d + 5 + 1) 39 [vR (0)] σ K := by
  have hl := hg.2.2.1
  refine zC_in rfl ?_
  show zG (d + 5) 39 K 0 zfx (0, [vR (0)], [], σ)
  refine r_aload k_39_0 rfl ?_
  refine r_aload k_39_1 rfl ?_
  refine r_getR (q := 1) k_39_2 ⟨rfl, rfl⟩ ?_
  refine r_getR (q := 2) k_39_5 ⟨rfl, rfl⟩ ?_
  refine r_getS (v := (l.length : Int)) k_39_8 ⟨rfl, rfl⟩ hx.2.1.1 ?_
  refine r_call (as := [vR (0), vI ((l.length : Int))]) (r := []) k_39_11 rfl rfl rfl ?_
  refine v_open (n := l.length) hg.1 hx.1 hx.2.1 (zgd_c hg) hl (Nat.le_refl _) (fun τ1 f1 => ?_)
  rw [List.take_length]
  refine r_iret k_39_14 ?_
  exact q1 _ f1
theorem y_may {d : Nat} {σ : zM} {K : zM → Option zV → Prop} {C : Nat} {law least draw : Int} {l : List Int} {p : Nat → Int} (hg : zgd C law least draw l p) (hy : zYn (σ.2 12) C law least draw l p) (q1 : ∀ τ, zfr [] [18, 19] σ τ → K τ (some (vI (zmay C law least l)))) : zC (d + 4 + 1) 98 [vR (27)] σ K := by
  have hl := hg.2.2.1
  have hC := hg.1.2.1
  refine zC_in rfl ?_
  show zG (d + 4) 98 K 0 zfx (0, [vR (27), vU], [], σ)
  refine r_aload k_98_0 rfl ?_
  refine r_call (as := [vR (27)]) (r := []) k_98_1 rfl rfl rfl ?_
  refine v_lay (N := l.length) hy.2.2.2.2.1 hl (fun τ1 f1 r1 => ?_)
  refine r_istore (L' := [vR (27), vI ((l.length : Int))]) k_98_4 rfl ?_
  refine r_aload k_98_5 rfl ?_
  refine r_iload k_98_6 rfl ?_
  refine r_call (as := [vR (27), vI ((l.length : Int))]) (r := []) k_98_7 rfl rfl rfl ?_
  have e12 : τ1.2 12 = σ.2 12 := f1.2 12 (by decide)
  have z1 : zrs τ1 l := zYrs hy r1
  refine t_faultsl (l := l) ⟨hg.1.2.2.1, hg.1.2.2.2.1⟩ hg.1.2.2.2.2 (by rw [e12]; exact hy.2.1) (by rw [e12]; exact hy.2.2.1) z1 (zgd_c hg) (by omega) rfl (fun τ2 f2 => ?_)
  have F2 : zfr [] [18, 19] σ τ2 := zfr_tr f1 f2 (by decide) (by decide)
  have z2 : zrs τ2 l := zrs_fr z1 f2 (by decide)
  refine r_if_le k_98_10 (fun h10 => ?_) (fun h10 => ?_)
  · skip
    refine r_aload k_98_17 rfl ?_
    refine r_iload k_98_18 rfl ?_
    refine r_call (as := [vR (27), vI ((l.length : Int))]) (r := []) k_98_19 rfl rfl rfl ?_
    have e13 : τ2.2 12 = σ.2 12 := F2.2 12 (by decide)
    refine t_may (C := C) (l := l) ⟨hg.1.2.2.1, hg.1.2.2.2.1⟩ hg.1.2.2.2.2 (by omega) (by rw [e13]; exact hy.1) (by rw [e13]; exact hy.2.1) (by rw [e13]; exact hy.2.2.1) z2 (zgd_c hg) (by omega) (fun τ3 f3 _ => ?_)
    have F3 : zfr [] [18, 19] σ τ3 := zfr_tr F2 f3 (by decide) (by decide)
    refine r_iret k_98_22 ?_
    exact zKe (q1 _ F3) (if_pos (by omega))
  · skip
    refine r_const k_98_13 ?_
    refine r_goto k_98_14 ?_
    refine r_iret k_98_22 ?_
    exact zKe (q1 _ F2) (if_neg (by omega))
theorem p_may {d : Nat} {σ : zM} (h : zInv σ) : zC (d + 41) 39 [vR 0] σ (fun σ1 r1 => zC (d + 5) 98 [vR 27] σ1 (zpq σ1 r1)) := by
  obtain ⟨C, law, least, draw, l, p, hg, hx, hy⟩ := h.1
  refine x_may (d := d + 35) hg hx (fun τ f => ?_)
  have hy2 : zYn (τ.2 12) C law least draw l p := by rw [f.2 12 (by decide)]; exact hy
  exact y_may hg hy2 (fun υ f2 => ⟨⟨_, rfl, rfl⟩, zInv_fr (zInv_fr h f (by decide) (by decide)) f2 (by decide) (by decide)⟩)
theorem x_pale {d : Nat} {σ : zM} {K : zM → Option zV → Prop} {C : Nat} {law least draw : Int} {l : List Int} {p : Nat → Int} (hg : zgd C law least draw l p) (hx : zXn σ C law least draw l p) {i : Int} (q1 : 0 ≤ i → i < l.length → K σ (some (vI (zlf l i.toNat)))) (q2 : ¬ (0 ≤ i ∧ i < l.length) → K σ (some (vI (-1)))) : zC (d + 1 + 1) 32 [vR (0), vI (i)] σ K := by
  have hl := hg.2.2.1
  refine zC_in rfl ?_
  show zG (d + 1) 32 K 0 zfx (0, [vR (0), vI (i)], [], σ)
  refine r_aload k_32_0 rfl ?_
  refine r_getR (q := 1) k_32_1 ⟨rfl, rfl⟩ ?_
  refine r_getR (q := 2) k_32_4 ⟨rfl, rfl⟩ ?_
  refine r_iload k_32_7 rfl ?_
  refine r_call (as := [vR (2), vI (i)]) (r := []) k_32_8 rfl rfl rfl ?_
  refine s_has (r := 0) (by decide) (fun g8 e8 => ?_) (fun g8 => ?_)
  · skip
    rw [hx.2.1.1] at e8
    refine r_if_eq k_32_11 (fun hz => absurd hz (by decide)) (fun _ => ?_)
    refine r_aload k_32_14 rfl ?_
    refine r_getR (q := 1) k_32_15 ⟨rfl, rfl⟩ ?_
    refine r_getR (q := 2) k_32_18 ⟨rfl, rfl⟩ ?_
    refine r_iload k_32_21 rfl ?_
    refine r_call (as := [vR (2), vI (i)]) (r := []) k_32_22 rfl rfl rfl ?_
    refine v_at (r := 0) (l := l) (k := i.toNat) (by decide) hx.2.1 (by omega) (by omega) (by omega) ?_
    refine r_goto k_32_25 ?_
    refine r_iret k_32_29 ?_
    exact q1 (by omega) (by omega)
  · skip
    rw [hx.2.1.1] at g8
    refine r_if_eq k_32_11 (fun _ => ?_) (fun hz => absurd hz (by decide))
    refine r_const k_32_28 ?_
    refine r_iret k_32_29 ?_
    exact q2 (by omega)
theorem y_isPale {d : Nat} {σ : zM} {K : zM → Option zV → Prop} {C : Nat} {law least draw : Int} {l : List Int} {p : Nat → Int} (hg : zgd C law least draw l p) (hy : zYn (σ.2 12) C law least draw l p) {i : Int} (q1 : 0 ≤ i → i < l.length → K σ (some (vI 1))) (q2 : ¬ (0 ≤ i ∧ i < l.length) → K σ (some (vI 0))) : zC (d + 2) 85 [vR 27, vI i] σ K := by
  have hl := hg.2.2.1
  refine zC_in rfl ?_
  show zG (d + 1) 85 K 0 zfx (0, [vR 27, vI i], [], σ)
  refine r_iload k_85_0 rfl ?_
  refine r_cnv (w := vL (i)) k_85_1 rfl ?_
  refine r_lconst k_85_2 ?_
  refine r_aload k_85_3 rfl ?_
  refine r_getR (q := 28) k_85_4 ⟨rfl, rfl⟩ ?_
  refine r_const k_85_7 ?_
  refine r_iald (v := (l.length : Int)) k_85_8 ⟨rfl, rfl⟩ ⟨by decide, by decide⟩ hy.2.2.2.2.1 ?_
  refine r_const k_85_9 ?_
  refine r_bin (v := (l.length : Int) - 1) k_85_10 (zb_sub ⟨by omega, by omega⟩) ?_
  refine r_cnv (w := vL ((l.length : Int) - 1)) k_85_11 rfl ?_
  refine r_call (as := [vL (i), vL (0), vL ((l.length : Int) - 1)]) (r := []) k_85_12 rfl rfl rfl ?_
  refine t_in (fun g12 => ?_) (fun g12 => ?_)
  · skip
    refine r_zret k_85_15 (by omega) ?_
    exact q1 (by omega) (by omega)
  · skip
    refine r_zret k_85_15 (by omega) ?_
    exact q2 (by omega)
theorem y_pale {d : Nat} {σ : zM} {K : zM → Option zV → Prop} {C : Nat} {law least draw : Int} {l : List Int} {p : Nat → Int} (hg : zgd C law least draw l p) (hy : zYn (σ.2 12) C law least draw l p) {i : Int} (q1 : 0 ≤ i → i < l.length → K σ (some (vI (zlf l i.toNat)))) (q2 : ¬ (0 ≤ i ∧ i < l.length) → K σ (some (vI (-1)))) : zC (d + 2 + 1) 92 [vR (27), vI (i)] σ K := by
  have hl := hg.2.2.1
  refine zC_in rfl ?_
  show zG (d + 2) 92 K 0 zfx (0, [vR (27), vI (i)], [], σ)
  refine r_aload k_92_0 rfl ?_
  refine r_iload k_92_1 rfl ?_
  refine r_call (as := [vR (27), vI (i)]) (r := []) k_92_2 rfl rfl rfl ?_
  refine y_isPale hg hy (fun g2 e2 => ?_) (fun g2 => ?_)
  · skip
    refine r_if_eq k_92_5 (fun hz => absurd hz (by decide)) (fun _ => ?_)
    refine r_aload k_92_8 rfl ?_
    refine r_getR (q := 28) k_92_9 ⟨rfl, rfl⟩ ?_
    refine r_const k_92_12 ?_
    refine r_iload k_92_14 rfl ?_
    refine r_bin (v := 9 + i) k_92_15 (zb_add ⟨by omega, by omega⟩) ?_
    refine r_iald (v := (zlf l i.toNat)) k_92_16 ⟨rfl, rfl⟩ ⟨by omega, by omega⟩ (by rw [show (9 + i : Int).toNat = 9 + i.toNat by omega]; exact hy.2.2.2.2.2.2 _ (by omega)) ?_
    refine r_goto k_92_17 ?_
    refine r_iret k_92_21 ?_
    exact q1 (by omega) (by omega)
  · skip
    refine r_if_eq k_92_5 (fun _ => ?_) (fun hz => absurd hz (by decide))
    refine r_const k_92_20 ?_
    refine r_iret k_92_21 ?_
    exact q2 (by omega)
theorem p_pale {d : Nat} {σ : zM} (h : zInv σ) {i : Int} : zC (d + 41) 32 [vR 0, vI i] σ (fun σ1 r1 => zC (d + 5) 92 [vR 27, vI i] σ1 (zpq σ1 r1)) := by
  obtain ⟨C, law, least, draw, l, p, hg, hx, hy⟩ := h.1
  exact x_pale (d := d + 39) hg hx (fun e1 e2 => y_pale (d := d + 2) hg hy (fun _ _ => ⟨⟨_, rfl, rfl⟩, h⟩) (fun q => absurd ⟨e1, e2⟩ q)) (fun q => y_pale (d := d + 2) hg hy (fun e1 e2 => absurd ⟨e1, e2⟩ q) (fun _ => ⟨⟨_, rfl, rfl⟩, h⟩))
