/-! rings: the two alike -/
def zcr (law least : Int) : List (List Int) → Nat
  | [] => 0
  | q :: R => (if zringb law least q = true then 1 else 0) + zcr law least R
theorem zcr_le {law least : Int} : ∀ L : List (List Int), zcr law least L ≤ L.length
  | [] => Nat.le_refl _
  | q :: R => by
    have := zcr_le (law := law) (least := least) R
    rw [zcr, List.length_cons]
    split <;> omega
theorem zcr_f {law least : Int} : ∀ L : List (List Int), zcr law least L = (L.filter (zqr 1 law least)).length
  | [] => rfl
  | q :: R => by
    have ih := zcr_f (law := law) (least := least) R
    rw [zcr, List.filter_cons, ih]
    have e : zqr 1 law least q = zringb law least q := by unfold zqr; rfl
    rw [e]
    by_cases h : zringb law least q = true
    · rw [if_pos h, if_pos h, List.length_cons]; omega
    · rw [if_neg h, if_neg h]; omega
theorem zct_r {C : Nat} {law least : Int} {N : Nat} : zct C law least (zqr 1 law least) N [] = zcr law least (zenu C law least N []) := by
  rw [zcr_f, zenu_ct]
theorem x_rings {d : Nat} {σ : zM} {K : zM → Option zV → Prop} {C : Nat} {law least draw : Int} {l : List Int} {p : Nat → Int} (hg : zgd C law least draw l p) (hx : zXn σ C law least draw l p) {n : Int} (q1 : ¬ (1 ≤ n ∧ n ≤ 8) → K σ (some (vI (-1)))) (q2 : ∀ N : Nat, n = N → 1 ≤ N → N ≤ 8 → ∀ τ, zfr [2] [2] σ τ → K τ (some (vI ((zct C law least (zqr 1 law least) N [] : Nat) : Int)))) : zC (d + 39 + 1) 48 [vR (0), vI (n)] σ K := by
  have hl := hg.2.2.1
  have hb := hg.1
  have hC := hg.1.1
  have hC4 := hg.1.2.1
  refine zC_in rfl ?_
  show zG (d + 39) 48 K 0 zfx (0, [vR (0), vI (n)], [], σ)
  refine r_iload k_48_0 rfl ?_
  refine r_const k_48_1 ?_
  refine r_ic_lt k_48_2 (fun h2 => ?_) (fun h2 => ?_)
  · skip
    refine r_const k_48_11 ?_
    refine r_iret k_48_12 ?_
    exact q1 (by omega)
  · skip
    refine r_iload k_48_5 rfl ?_
    refine r_const k_48_6 ?_
    refine r_ic_le k_48_8 (fun h8 => ?_) (fun h8 => ?_)
    · skip
      refine r_aload k_48_13 rfl ?_
      refine r_getR (q := 22) k_48_14 ⟨rfl, rfl⟩ ?_
      refine r_const k_48_17 ?_
      refine r_putS k_48_18 ⟨rfl, rfl⟩ ?_
      refine r_aload k_48_21 rfl ?_
      refine r_getR (q := 1) k_48_22 ⟨rfl, rfl⟩ ?_
      refine r_getR (q := 4) k_48_25 ⟨rfl, rfl⟩ ?_
      refine r_aload k_48_28 rfl ?_
      refine r_getR (q := 22) k_48_29 ⟨rfl, rfl⟩ ?_
      refine r_iload k_48_32 rfl ?_
      refine r_const k_48_33 ?_
      refine r_const k_48_34 ?_
      refine r_call (as := [vR (4), vR (22), vI (n), vI (0), vI (1)]) (r := []) k_48_35 rfl rfl rfl ?_
      obtain ⟨N, hN⟩ : ∃ N : Nat, n = N := ⟨n.toNat, by omega⟩
      subst hN
      refine v_rows (rnd := 1) hg.1 N (d + 39) (by omega) (by omega) (l := []) (u := 0) (zrl_fr hx.1 (zfr_S (S := [2]) (A := []) zfr_rf (by decide)) (by decide)) ⟨zS_1 _ _ _, fun k hk => absurd hk (Nat.not_lt_zero _)⟩ zcol_nil (fun x hx => absurd hx List.not_mem_nil) (by omega) (by simp; omega) (fun τ1 f1 z1 => ?_)
      have F1 : zfr [2] [2] σ τ1 := zfr_tr (zfr_S (S := [2]) (A := []) zfr_rf (by decide)) f1 (by decide) (by decide)
      refine r_iret k_48_38 ?_
      exact q2 N rfl (by omega) (by omega) _ F1
    · skip
      refine r_const k_48_11 ?_
      refine r_iret k_48_12 ?_
      exact q1 (by omega)
theorem y_rings {d : Nat} {σ : zM} {K : zM → Option zV → Prop} {C : Nat} {law least draw : Int} {l : List Int} {p : Nat → Int} (hg : zgd C law least draw l p) (hy : zYn (σ.2 12) C law least draw l p) {n : Int} (q1 : ¬ (1 ≤ n ∧ n ≤ 8) → K σ (some (vI (-1)))) (q2 : ∀ N : Nat, n = N → 1 ≤ N → N ≤ 8 → ∀ τ, zfr [] [18, 19, 21] σ τ → K τ (some (vI ((zct C law least (zqr 1 law least) N [] : Nat) : Int)))) : zC (d + 5 + 1) 107 [vR (27), vI (n)] σ K := by
  have hl := hg.2.2.1
  have hb := hg.1
  have hC := hg.1.1
  have hC4 := hg.1.2.1
  refine zC_in rfl ?_
  have lpx : ∀ (m : Nat) (r : Int) (τ : zM), K τ (some (vI r)) → zG (d + 5) 107 K 0 zfx (23, [vR (27), vI (n), vI (r), vI (0)], [], τ) := by
    intro m
    induction m using Nat.strongRecOn with
    | _ m ih =>
    intro r τ hq
    refine r_iload k_107_23 rfl ?_
    refine r_if_eq k_107_24 (fun _ => ?_) (fun hz => absurd hz (by decide))
    refine r_iload k_107_53 rfl ?_
    refine r_iret k_107_54 ?_
    exact hq
  have lp : ∀ (m : Nat) (N k : Nat) (q : List Int) (R : List (List Int)) (τ : zM), R.length = m → n = N → 1 ≤ N → N ≤ 8 → k + 1 + R.length ≤ 262144 → znx C law least N q R → zfr [] [18, 19, 21] σ τ → zrs τ q → (∀ υ, zfr [] [18, 19, 21] σ υ → K υ (some (vI ((k : Int) + ((zcr law least (q :: R) : Nat) : Int))))) → zG (d + 5) 107 K 0 zfx (23, [vR (27), vI (n), vI ((k : Int)), vI (1)], [], τ) := by
    intro m
    induction m using Nat.strongRecOn with
    | _ m ih =>
    intro N k q R τ hm hN n1 n9 hT hnx hf hrs hq
    refine r_iload k_107_23 rfl ?_
    refine r_if_eq k_107_24 (fun hz => absurd hz (by decide)) (fun _ => ?_)
    refine r_iload k_107_27 rfl ?_
    refine r_aload k_107_28 rfl ?_
    refine r_iload k_107_29 rfl ?_
    refine r_call (as := [vR (27), vI (n)]) (r := [vI ((k : Int))]) k_107_30 rfl rfl rfl ?_
    have hYr : zYn (τ.2 12) C law least draw l p := by rw [hf.2 12 (by decide)]; exact hy
    refine y_isRing (q := q) ⟨hg.1.2.2.1, hg.1.2.2.2.1⟩ hg.1.2.2.2.2 hYr.2.1 hYr.2.2.1 (by rw [hnx.2.1]; exact hN) (by rw [hnx.2.1]; exact n1) (by rw [hnx.2.1]; exact n9) (znx_col hnx (by omega)) hnx.2.2.1 hrs (fun τ5 f5 z5 => ?_)
    have F5 : zfr [] [18, 19, 21] σ τ5 := zfr_2 hf f5 (by decide) (by decide)
    refine r_if_eq k_107_33 (fun h33 => ?_) (fun h33 => ?_)
    · skip
      refine r_const k_107_40 ?_
      refine r_bin (v := (k : Int) + 0) k_107_41 (zb_add ⟨by omega, by omega⟩) ?_
      refine r_istore (L' := [vR (27), vI (n), vI ((k : Int) + 0), vI (1)]) k_107_42 rfl ?_
      refine r_aload k_107_43 rfl ?_
      refine r_iload k_107_44 rfl ?_
      refine r_const k_107_45 ?_
      refine r_call (as := [vR (27), vI (n), vI (0)]) (r := []) k_107_46 rfl rfl rfl ?_
      have hYq : zYn ((τ5).2 12) C law least draw l p := by rw [F5.2 12 (by decide)]; exact hy
      refine t_nexte hN ⟨hg.1.2.2.1, hg.1.2.2.2.1⟩ hg.1.2.2.2.2 (by omega) hYq.1 hYq.2.1 hYq.2.2.1 (by omega) (p := q) hnx.2.1 hnx.2.2.2 z5 (fun q2 R2 hS τ2 f2 z2 => ?_) (fun hS τ2 f2 => ?_)
      · skip
        have F2 : zfr [] [18, 19, 21] σ τ2 := zfr_2 F5 f2 (by decide) (by decide)
        refine r_istore (L' := [vR (27), vI (n), vI ((k : Int) + 0), vI (1)]) k_107_49 rfl ?_
        refine r_goto k_107_50 ?_
        have hrg : zringb law least q = false := zb1_e.mp (by omega)
        have e2 : R = q2 :: R2 := hnx.1.trans hS
        have eR : R.length = R2.length + 1 := by rw [e2]; rfl
        have hle2 := zcr_le (law := law) (least := least) R2
        have hq2 := fun υ fu => zKe (hq υ fu) (show _ = (((k + 0 : Nat) : Int) + ((zcr law least (q2 :: R2) : Nat) : Int)) by rw [← e2, zcr, hrg]; simp <;> omega)
        exact ih R2.length (by omega) N (k + 0) q2 R2 _ rfl hN n1 n9 (by omega) (znx_next hnx e2) F2 z2 hq2
      · skip
        have F2 : zfr [] [18, 19, 21] σ τ2 := zfr_2 F5 f2 (by decide) (by decide)
        refine r_istore (L' := [vR (27), vI (n), vI ((k : Int) + 0), vI (0)]) k_107_49 rfl ?_
        refine r_goto k_107_50 ?_
        have hrg : zringb law least q = false := zb1_e.mp (by omega)
        exact lpx 0 _ _ (zKe (hq _ F2) (by rw [hnx.1, hS, zcr, zcr, hrg]; simp <;> omega))
    · skip
      refine r_const k_107_36 ?_
      refine r_goto k_107_37 ?_
      refine r_bin (v := (k : Int) + 1) k_107_41 (zb_add ⟨by omega, by omega⟩) ?_
      refine r_istore (L' := [vR (27), vI (n), vI ((k : Int) + 1), vI (1)]) k_107_42 rfl ?_
      refine r_aload k_107_43 rfl ?_
      refine r_iload k_107_44 rfl ?_
      refine r_const k_107_45 ?_
      refine r_call (as := [vR (27), vI (n), vI (0)]) (r := []) k_107_46 rfl rfl rfl ?_
      have hYq : zYn ((τ5).2 12) C law least draw l p := by rw [F5.2 12 (by decide)]; exact hy
      refine t_nexte hN ⟨hg.1.2.2.1, hg.1.2.2.2.1⟩ hg.1.2.2.2.2 (by omega) hYq.1 hYq.2.1 hYq.2.2.1 (by omega) (p := q) hnx.2.1 hnx.2.2.2 z5 (fun q2 R2 hS τ2 f2 z2 => ?_) (fun hS τ2 f2 => ?_)
      · skip
        have F2 : zfr [] [18, 19, 21] σ τ2 := zfr_2 F5 f2 (by decide) (by decide)
        refine r_istore (L' := [vR (27), vI (n), vI ((k : Int) + 1), vI (1)]) k_107_49 rfl ?_
        refine r_goto k_107_50 ?_
        have hrg : zringb law least q = true := zb1_ne.mp (by omega)
        have e2 : R = q2 :: R2 := hnx.1.trans hS
        have eR : R.length = R2.length + 1 := by rw [e2]; rfl
        have hle2 := zcr_le (law := law) (least := least) R2
        have hq2 := fun υ fu => zKe (hq υ fu) (show _ = (((k + 1 : Nat) : Int) + ((zcr law least (q2 :: R2) : Nat) : Int)) by rw [← e2, zcr, hrg]; simp <;> omega)
        exact ih R2.length (by omega) N (k + 1) q2 R2 _ rfl hN n1 n9 (by omega) (znx_next hnx e2) F2 z2 hq2
      · skip
        have F2 : zfr [] [18, 19, 21] σ τ2 := zfr_2 F5 f2 (by decide) (by decide)
        refine r_istore (L' := [vR (27), vI (n), vI ((k : Int) + 1), vI (0)]) k_107_49 rfl ?_
        refine r_goto k_107_50 ?_
        have hrg : zringb law least q = true := zb1_ne.mp (by omega)
        exact lpx 0 _ _ (zKe (hq _ F2) (by rw [hnx.1, hS, zcr, zcr, hrg]; simp <;> omega))
  show zG (d + 5) 107 K 0 zfx (0, [vR (27), vI (n), vU, vU], [], σ)
  refine r_iload k_107_0 rfl ?_
  refine r_cnv (w := vL (n)) k_107_1 rfl ?_
  refine r_lconst k_107_2 ?_
  refine r_lconst k_107_3 ?_
  refine r_call (as := [vL (n), vL (1), vL (8)]) (r := []) k_107_6 rfl rfl rfl ?_
  refine t_in (fun g6 => ?_) (fun g6 => ?_)
  · skip
    refine r_if_ne k_107_9 (fun _ => ?_) (fun hz => absurd hz (by decide))
    refine r_const k_107_14 ?_
    refine r_istore (L' := [vR (27), vI (n), vI (0), vU]) k_107_15 rfl ?_
    refine r_aload k_107_16 rfl ?_
    refine r_iload k_107_17 rfl ?_
    refine r_const k_107_18 ?_
    refine r_call (as := [vR (27), vI (n), vI (1)]) (r := []) k_107_19 rfl rfl rfl ?_
    obtain ⟨N, hN⟩ : ∃ N : Nat, n = N := ⟨n.toNat, by omega⟩
    refine t_firste hN ⟨hg.1.2.2.1, hg.1.2.2.2.1⟩ hg.1.2.2.2.2 (by omega) hy.1 hy.2.1 hy.2.2.1 (by omega) (by omega) (fun q R hS τ1 f1 z1 => ?_) (fun hS τ1 f1 => ?_)
    · skip
      have F1 : zfr [] [18, 19, 21] σ τ1 := zfr_w f1 (by decide) (by decide)
      refine r_istore (L' := [vR (27), vI (n), vI (0), vI (1)]) k_107_22 rfl ?_
      have hb2 := zct_b (C := C) (law := law) (least := least) (Q := zqr 0 law least) (by omega) (m := N) (by omega) []
      have e2 := zct_all (C := C) (law := law) (least := least) (N := N)
      rw [hS, List.length_cons] at e2
      exact lp _ N 0 q R _ rfl hN (by omega) (by omega) (by omega) (zenu_nx (by omega) hS) F1 z1 (fun υ fu => zKe (q2 N hN (by omega) (by omega) υ fu) (by rw [zct_r, hS]; omega))
    · skip
      have F1 : zfr [] [18, 19, 21] σ τ1 := zfr_w f1 (by decide) (by decide)
      refine r_istore (L' := [vR (27), vI (n), vI (0), vI (0)]) k_107_22 rfl ?_
      exact lpx 0 _ _ (zKe (q2 N hN (by omega) (by omega) _ F1) (by rw [zct_r, hS]; rfl))
  · skip
    refine r_if_ne k_107_9 (fun hz => absurd hz (by decide)) (fun _ => ?_)
    refine r_const k_107_12 ?_
    refine r_iret k_107_13 ?_
    exact q1 (by omega)
theorem p_rings {d : Nat} {σ : zM} (h : zInv σ) {n : Int} : zC (d + 41) 48 [vR 0, vI n] σ (fun σ1 r1 => zC (d + 6) 107 [vR 27, vI n] σ1 (zpq σ1 r1)) := by
  obtain ⟨C, law, least, draw, l, p, hg, hx, hy⟩ := h.1
  refine x_rings (d := d + 1) hg hx (fun q => y_rings hg hy (fun _ => ⟨⟨_, rfl, rfl⟩, h⟩) (fun N e1 e2 e3 => absurd ⟨by omega, by omega⟩ q)) (fun N e1 e2 e3 τ f => ?_)
  have hy2 : zYn (τ.2 12) C law least draw l p := by rw [f.2 12 (by decide)]; exact hy
  exact y_rings hg hy2 (fun q => absurd ⟨by omega, by omega⟩ q) (fun N2 e4 _ _ υ f2 => ⟨⟨_, rfl, by rw [show N2 = N by omega]⟩, zInv_fr (zInv_fr h f (by decide) (by decide)) f2 (by decide) (by decide)⟩)
