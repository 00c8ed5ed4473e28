/-! far: the two alike -/
theorem t_in {d : Nat} {σ : zM} {K : zM → Option zV → Prop} {v a b : Int} (q1 : a ≤ v ∧ v ≤ b → K σ (some (vI 1))) (q2 : ¬ (a ≤ v ∧ v ≤ b) → K σ (some (vI 0))) : zC (d + 1) 77 [vL v, vL a, vL b] σ K := by
  refine zC_in rfl ?_
  show zG (d) 77 K 0 zfx (0, [vL (v), vU, vL (a), vU, vL (b), vU], [], σ)
  refine r_lload k_77_0 rfl ?_
  refine r_lload k_77_1 rfl ?_
  refine r_lcmp (v := zcmp v a) k_77_2 rfl ?_
  refine r_if_lt k_77_3 (fun h3 => ?_) (fun h3 => ?_)
  · skip
    replace h3 := zcmp_lt.mp h3
    refine r_const k_77_17 ?_
    refine r_zret k_77_18 (by omega) ?_
    exact q2 (by omega)
  · skip
    replace h3 := zcmp_ge.mp h3
    refine r_lload k_77_6 rfl ?_
    refine r_lload k_77_7 rfl ?_
    refine r_lcmp (v := zcmp v b) k_77_9 rfl ?_
    refine r_if_gt k_77_10 (fun h10 => ?_) (fun h10 => ?_)
    · skip
      replace h10 := zcmp_gt.mp h10
      refine r_const k_77_17 ?_
      refine r_zret k_77_18 (by omega) ?_
      exact q2 (by omega)
    · skip
      replace h10 := zcmp_le.mp h10
      refine r_const k_77_13 ?_
      refine r_goto k_77_14 ?_
      refine r_zret k_77_18 (by omega) ?_
      exact q1 (by omega)
theorem x_far {d : Nat} {σ : zM} {K : zM → Option zV → Prop} {C : Nat} {law least draw : Int} {l : List Int} {p : Nat → Int} (hg : zgd C law least draw l p) (hx : zXn σ C law least draw l p) {n : Int} (q1 : ¬ (0 ≤ n ∧ n ≤ 16) → K σ (some (vI (-1)))) (q2 : ∀ k : Nat, n = k → k ≤ 16 → ∀ τ, zfr [2, 3] [2, 3] σ τ → zis τ 3 (zgo C law least k l) → K τ (some (vI (((zgo C law least k l).length : Int) - (l.length : Int))))) : zC (d + 41) 42 [vR 0, vI n] σ K := by
  have hl := hg.2.2.1
  refine zC_in rfl ?_
  show zG (d + 40) 42 K 0 zfx (0, [vR (0), vI (n)], [], σ)
  refine r_iload k_42_0 rfl ?_
  refine r_if_lt k_42_1 (fun h1 => ?_) (fun h1 => ?_)
  · skip
    refine r_const k_42_10 ?_
    refine r_goto k_42_11 ?_
    refine r_iret k_42_29 ?_
    exact q1 (by omega)
  · skip
    refine r_iload k_42_4 rfl ?_
    refine r_const k_42_5 ?_
    refine r_ic_le k_42_7 (fun h7 => ?_) (fun h7 => ?_)
    · skip
      refine r_aload k_42_14 rfl ?_
      refine r_aload k_42_15 rfl ?_
      refine r_getR (q := 1) k_42_16 ⟨rfl, rfl⟩ ?_
      refine r_getR (q := 2) k_42_19 ⟨rfl, rfl⟩ ?_
      refine r_getS (v := (l.length : Int)) k_42_22 ⟨rfl, rfl⟩ hx.2.1.1 ?_
      refine r_iload k_42_25 rfl ?_
      refine r_call (as := [vR (0), vI ((l.length : Int)), vI (n)]) (r := []) k_42_26 rfl rfl rfl ?_
      obtain ⟨k, rfl⟩ : ∃ k : Nat, n = k := ⟨n.toNat, by omega⟩
      refine v_go (k := l.length) (n := k) hg.1 hx.1 hx.2.1 (zgd_c hg) hl (Nat.le_refl _) (by omega) (by omega) (fun τ1 f1 z1 => ?_)
      rw [List.take_length] at z1 ⊢
      refine r_iret k_42_29 ?_
      exact q2 k rfl (by omega) _ f1 z1
    · skip
      refine r_const k_42_10 ?_
      refine r_goto k_42_11 ?_
      refine r_iret k_42_29 ?_
      exact q1 (by omega)
theorem zYrs {σ τ : zM} {C : Nat} {law least draw : Int} {l : List Int} {p : Nat → Int} (hy : zYn (σ.2 12) C law least draw l p) (hr : ∀ j, j < l.length → τ.2 18 j = σ.2 12 (9 + j)) : zrs τ l := fun j hj => (hr j hj).trans (hy.2.2.2.2.2.2 j hj)
theorem y_far {d : Nat} {σ : zM} {K : zM → Option zV → Prop} {C : Nat} {law least draw : Int} {l : List Int} {p : Nat → Int} (hg : zgd C law least draw l p) (hy : zYn (σ.2 12) C law least draw l p) {n : Int} (q1 : ¬ (0 ≤ n ∧ n ≤ 16) → K σ (some (vI (-1)))) (q2 : ∀ k : Nat, n = k → k ≤ 16 → ∀ τ, zfr [] [18, 19, 20] σ τ → zbs τ l.length (zgo C law least k l) → K τ (some (vI (((zgo C law least k l).length : Int) - (l.length : Int))))) : zC (d + 5) 101 [vR 27, vI n] σ K := by
  have hl := hg.2.2.1
  have hC := hg.1.2.1
  refine zC_in rfl ?_
  show zG (d + 4) 101 K 0 zfx (0, [vR (27), vI (n)], [], σ)
  refine r_iload k_101_0 rfl ?_
  refine r_cnv (w := vL (n)) k_101_1 rfl ?_
  refine r_lconst k_101_2 ?_
  refine r_lconst k_101_3 ?_
  refine r_call (as := [vL (n), vL (0), vL (16)]) (r := []) k_101_6 rfl rfl rfl ?_
  refine t_in (fun g6 => ?_) (fun g6 => ?_)
  · skip
    refine r_if_eq k_101_9 (fun hz => absurd hz (by decide)) (fun _ => ?_)
    refine r_aload k_101_12 rfl ?_
    refine r_aload k_101_13 rfl ?_
    refine r_call (as := [vR (27)]) (r := [vR (27)]) k_101_14 rfl rfl rfl ?_
    refine v_lay (N := l.length) hy.2.2.2.2.1 hl (fun τ1 f1 r1 => ?_)
    refine r_iload k_101_17 rfl ?_
    refine r_call (as := [vR (27), vI ((l.length : Int)), vI (n)]) (r := []) k_101_18 rfl rfl rfl ?_
    obtain ⟨k, rfl⟩ : ∃ k : Nat, n = k := ⟨n.toNat, by omega⟩
    have e12 : τ1.2 12 = σ.2 12 := f1.2 12 (by decide)
    refine t_reaches (C := C) (law := law) (least := least) (l := l) ⟨hg.1.2.2.1, hg.1.2.2.2.1⟩ hg.1.2.2.2.2 (by omega) (by rw [e12]; exact hy.1) (by rw [e12]; exact hy.2.1) (by rw [e12]; exact hy.2.2.1) (by omega) (by omega) rfl (zgd_c hg) (zYrs hy r1) (fun τ2 f2 b2 => ?_)
    have F2 : zfr [] [18, 19, 20] σ τ2 := zfr_tr f1 f2 (by decide) (by decide)
    refine r_goto k_101_21 ?_
    refine r_iret k_101_25 ?_
    exact q2 k rfl (by omega) _ F2 b2
  · skip
    refine r_if_eq k_101_9 (fun _ => ?_) (fun hz => absurd hz (by decide))
    refine r_const k_101_24 ?_
    refine r_iret k_101_25 ?_
    exact q1 (by omega)
theorem p_far {d : Nat} {σ : zM} (h : zInv σ) {n : Int} : zC (d + 41) 42 [vR 0, vI n] σ (fun σ1 r1 => zC (d + 5) 101 [vR 27, vI n] σ1 (zpq σ1 r1)) := by
  obtain ⟨C, law, least, draw, l, p, hg, hx, hy⟩ := h.1
  refine x_far hg hx (fun q => y_far hg hy (fun _ => ⟨⟨_, rfl, rfl⟩, h⟩) (fun k e1 e2 => absurd ⟨by omega, by omega⟩ q)) (fun k e1 e2 τ f z => ?_)
  have hy2 : zYn (τ.2 12) C law least draw l p := by rw [f.2 12 (by decide)]; exact hy
  exact y_far hg hy2 (fun q => absurd ⟨by omega, by omega⟩ q) (fun k2 e3 e4 υ f2 _ => ⟨⟨_, rfl, by rw [show k2 = k by omega]⟩, zInv_fr (zInv_fr h f (by decide) (by decide)) f2 (by decide) (by decide)⟩)
