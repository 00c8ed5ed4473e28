/-! go: the two alike -/
theorem x_go {d : Nat} {σ : zM} {K : zM → Option zV → Prop} {C : Nat} {law least draw : Int} {l : List Int} {p : Nat → Int} (hg : zgd C law least draw l p) (hx : zXn σ C law least draw l p) {n i : Int} (q1 : ¬ (1 ≤ n ∧ n ≤ 16 ∧ 0 ≤ i) → K σ (some (vI (-1)))) (q2 : ∀ k : Nat, n = k → 1 ≤ k → k ≤ 16 → 0 ≤ i → ∀ τ, zfr [2, 3] [2, 3] σ τ → i < ((zgo C law least k l).length : Int) - (l.length : Int) → K τ (some (vI (zlf (zgo C law least k l) (l.length + i.toNat))))) (q3 : ∀ k : Nat, n = k → 1 ≤ k → k ≤ 16 → 0 ≤ i → ∀ τ, zfr [2, 3] [2, 3] σ τ → ¬ i < ((zgo C law least k l).length : Int) - (l.length : Int) → K τ (some (vI (-4)))) : zC (d + 40 + 1) 43 [vR (0), vI (n), vI (i)] σ K := by
  have hl := hg.2.2.1
  refine zC_in rfl ?_
  show zG (d + 40) 43 K 0 zfx (0, [vR (0), vI (n), vI (i)], [], σ)
  refine r_iload k_43_0 rfl ?_
  refine r_const k_43_1 ?_
  refine r_ic_lt k_43_2 (fun h2 => ?_) (fun h2 => ?_)
  · skip
    refine r_const k_43_15 ?_
    refine r_iret k_43_16 ?_
    exact q1 (by omega)
  · skip
    refine r_iload k_43_5 rfl ?_
    refine r_const k_43_6 ?_
    refine r_ic_gt k_43_8 (fun h8 => ?_) (fun h8 => ?_)
    · skip
      refine r_const k_43_15 ?_
      refine r_iret k_43_16 ?_
      exact q1 (by omega)
    · skip
      refine r_iload k_43_11 rfl ?_
      refine r_if_ge k_43_12 (fun h12 => ?_) (fun h12 => ?_)
      · skip
        refine r_iload k_43_17 rfl ?_
        refine r_aload k_43_18 rfl ?_
        refine r_aload k_43_19 rfl ?_
        refine r_getR (q := 1) k_43_20 ⟨rfl, rfl⟩ ?_
        refine r_getR (q := 2) k_43_23 ⟨rfl, rfl⟩ ?_
        refine r_getS (v := (l.length : Int)) k_43_26 ⟨rfl, rfl⟩ hx.2.1.1 ?_
        refine r_iload k_43_29 rfl ?_
        refine r_call (as := [vR (0), vI ((l.length : Int)), vI (n)]) (r := [vI (i)]) k_43_30 rfl rfl rfl ?_
        obtain ⟨k, rfl⟩ : ∃ k : Nat, n = k := ⟨n.toNat, by omega⟩
        refine v_go (k := l.length) (n := k) hg.1 hx.1 hx.2.1 (zgd_c hg) hl (Nat.le_refl _) (by omega) (by omega) (fun τ1 f1 z1 => ?_)
        rw [List.take_length] at z1 ⊢
        have hx1 : zis τ1 0 l := zis_fr hx.2.1 f1 (by decide) (by decide)
        have hgl := zgo_len (C := C) (law := law) (least := least) (n := k) (l := l)
        refine r_ic_ge k_43_33 (fun h33 => ?_) (fun h33 => ?_)
        · skip
          refine r_const k_43_58 ?_
          refine r_iret k_43_60 ?_
          exact q3 k rfl (by omega) (by omega) (by omega) _ f1 (by omega)
        · skip
          refine r_aload k_43_36 rfl ?_
          refine r_getR (q := 24) k_43_37 ⟨rfl, rfl⟩ ?_
          refine r_aload k_43_40 rfl ?_
          refine r_getR (q := 1) k_43_41 ⟨rfl, rfl⟩ ?_
          refine r_getR (q := 2) k_43_44 ⟨rfl, rfl⟩ ?_
          refine r_getS (v := (l.length : Int)) k_43_47 ⟨rfl, rfl⟩ hx1.1 ?_
          refine r_iload k_43_50 rfl ?_
          refine r_bin (v := (l.length : Int) + i) k_43_51 (zb_add ⟨by omega, by omega⟩) ?_
          refine r_call (as := [vR (24), vI ((l.length : Int) + i)]) (r := []) k_43_52 rfl rfl rfl ?_
          refine v_at (r := 3) (l := (zgo C law least k l)) (k := (l.length + i.toNat)) (by decide) z1 (by omega) (by omega) (by omega) ?_
          refine r_goto k_43_55 ?_
          refine r_iret k_43_60 ?_
          exact q2 k rfl (by omega) (by omega) (by omega) _ f1 (by omega)
      · skip
        refine r_const k_43_15 ?_
        refine r_iret k_43_16 ?_
        exact q1 (by omega)
theorem y_go {d : Nat} {σ : zM} {K : zM → Option zV → Prop} {C : Nat} {law least draw : Int} {l : List Int} {p : Nat → Int} (hg : zgd C law least draw l p) (hy : zYn (σ.2 12) C law least draw l p) {n i : Int} (q1 : ¬ (1 ≤ n ∧ n ≤ 16 ∧ 0 ≤ i) → K σ (some (vI (-1)))) (q2 : ∀ k : Nat, n = k → 1 ≤ k → k ≤ 16 → 0 ≤ i → ∀ τ, zfr [] [18, 19, 20] σ τ → i < ((zgo C law least k l).length : Int) - (l.length : Int) → K τ (some (vI (zlf (zgo C law least k l) (l.length + i.toNat))))) (q3 : ∀ k : Nat, n = k → 1 ≤ k → k ≤ 16 → 0 ≤ i → ∀ τ, zfr [] [18, 19, 20] σ τ → ¬ i < ((zgo C law least k l).length : Int) - (l.length : Int) → K τ (some (vI (-4)))) : zC (d + 4 + 1) 102 [vR (27), vI (n), vI (i)] σ K := by
  have hl := hg.2.2.1
  have hC := hg.1.2.1
  refine zC_in rfl ?_
  show zG (d + 4) 102 K 0 zfx (0, [vR (27), vI (n), vI (i)], [], σ)
  refine r_iload k_102_0 rfl ?_
  refine r_cnv (w := vL (n)) k_102_1 rfl ?_
  refine r_lconst k_102_2 ?_
  refine r_lconst k_102_3 ?_
  refine r_call (as := [vL (n), vL (1), vL (16)]) (r := []) k_102_6 rfl rfl rfl ?_
  refine t_in (fun g6 => ?_) (fun g6 => ?_)
  · skip
    refine r_if_eq k_102_9 (fun hz => absurd hz (by decide)) (fun _ => ?_)
    refine r_iload k_102_12 rfl ?_
    refine r_if_ge k_102_13 (fun h13 => ?_) (fun h13 => ?_)
    · skip
      refine r_iload k_102_18 rfl ?_
      refine r_aload k_102_19 rfl ?_
      refine r_aload k_102_20 rfl ?_
      refine r_call (as := [vR (27)]) (r := [vR (27), vI (i)]) k_102_21 rfl rfl rfl ?_
      refine v_lay (N := l.length) hy.2.2.2.2.1 hl (fun τ1 f1 r1 => ?_)
      refine r_iload k_102_24 rfl ?_
      refine r_call (as := [vR (27), vI ((l.length : Int)), vI (n)]) (r := [vI (i)]) k_102_25 rfl rfl rfl ?_
      obtain ⟨k, rfl⟩ : ∃ k : Nat, n = k := ⟨n.toNat, by omega⟩
      have e12 : τ1.2 12 = σ.2 12 := f1.2 12 (by decide)
      refine t_reaches (C := C) (law := law) (least := least) (l := l) ⟨hg.1.2.2.1, hg.1.2.2.2.1⟩ hg.1.2.2.2.2 (by omega) (by rw [e12]; exact hy.1) (by rw [e12]; exact hy.2.1) (by rw [e12]; exact hy.2.2.1) (by omega) (by omega) rfl (zgd_c hg) (zYrs hy r1) (fun τ2 f2 b2 => ?_)
      have F2 : zfr [] [18, 19, 20] σ τ2 := zfr_tr f1 f2 (by decide) (by decide)
      have hgl := zgo_len (C := C) (law := law) (least := least) (n := k) (l := l)
      refine r_ic_ge k_102_28 (fun h28 => ?_) (fun h28 => ?_)
      · skip
        refine r_const k_102_40 ?_
        refine r_iret k_102_42 ?_
        exact q3 k rfl (by omega) (by omega) (by omega) _ F2 (by omega)
      · skip
        refine r_aload k_102_31 rfl ?_
        refine r_getR (q := 36) k_102_32 ⟨rfl, rfl⟩ ?_
        refine r_iload k_102_35 rfl ?_
        refine r_iald (v := (zlf (zgo C law least k l) (l.length + i.toNat))) k_102_36 ⟨rfl, rfl⟩ ⟨by omega, by omega⟩ (b2 i.toNat (by omega)) ?_
        refine r_goto k_102_37 ?_
        refine r_iret k_102_42 ?_
        exact q2 k rfl (by omega) (by omega) (by omega) _ F2 (by omega)
    · skip
      refine r_const k_102_16 ?_
      refine r_iret k_102_17 ?_
      exact q1 (by omega)
  · skip
    refine r_if_eq k_102_9 (fun _ => ?_) (fun hz => absurd hz (by decide))
    refine r_const k_102_16 ?_
    refine r_iret k_102_17 ?_
    exact q1 (by omega)
theorem p_go {d : Nat} {σ : zM} (h : zInv σ) {n i : Int} : zC (d + 41) 43 [vR 0, vI n, vI i] σ (fun σ1 r1 => zC (d + 5) 102 [vR 27, vI n, vI i] σ1 (zpq σ1 r1)) := by
  obtain ⟨C, law, least, draw, l, p, hg, hx, hy⟩ := h.1
  refine x_go hg hx (fun q => y_go hg hy (fun _ => ⟨⟨_, rfl, rfl⟩, h⟩) (fun k e1 e0 e2 e3 => absurd ⟨by omega, by omega, e3⟩ q) (fun k e1 e0 e2 e3 => absurd ⟨by omega, by omega, e3⟩ q)) (fun k e1 e0 e2 e3 τ f g => ?_) (fun k e1 e0 e2 e3 τ f g => ?_)
  · have hy2 : zYn (τ.2 12) C law least draw l p := by rw [f.2 12 (by decide)]; exact hy
    exact y_go hg hy2 (fun q => absurd ⟨by omega, by omega, e3⟩ q) (fun k2 e4 _ e5 e6 υ f2 g2 => ⟨⟨_, rfl, by rw [show k2 = k by omega]⟩, zInv_fr (zInv_fr h f (by decide) (by decide)) f2 (by decide) (by decide)⟩) (fun k2 e4 _ e5 e6 υ f2 g2 => absurd g (by rw [show k = k2 by omega]; exact g2))
  · have hy2 : zYn (τ.2 12) C law least draw l p := by rw [f.2 12 (by decide)]; exact hy
    exact y_go hg hy2 (fun q => absurd ⟨by omega, by omega, e3⟩ q) (fun k2 e4 _ e5 e6 υ f2 g2 => absurd g2 (by rw [show k2 = k by omega]; exact g)) (fun k2 e4 _ e5 e6 υ f2 g2 => ⟨⟨_, rfl, rfl⟩, zInv_fr (zInv_fr h f (by decide) (by decide)) f2 (by decide) (by decide)⟩)
