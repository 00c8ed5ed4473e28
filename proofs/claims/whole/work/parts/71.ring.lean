/-! ring: the two alike -/
theorem v_findRinge {d : Nat} {σ : zM} {K : zM → Option zV → Prop} {C : Nat} {law least : Int} {N : Nat} {x : Int} (hx : x = N) (hb : zbd C law least) (hN : N ≤ 8) (hw : zrl σ C law least) (hz : zis σ 2 []) (q1 : ∀ τ q, zfr [2, 3] [2, 3] σ τ → zfd C law least (zringb law least) N [] = some q → zis τ 3 q → K τ (some (vI 1))) (q2 : ∀ τ, zfr [2, 3] [2, 3] σ τ → zfd C law least (zringb law least) N [] = none → K τ (some (vI 0))) : zC (d + 14) 51 [vR 4, vR 22, vI x, vI 0, vR 24] σ K := by
  subst hx
  have h : ((0 : Nat) : Int) = 0 := rfl
  exact v_findRing hb N (d + 14) (by omega) (by omega) (l := []) (u := 0) hw hz zcol_nil (fun x hx => absurd hx List.not_mem_nil) (by omega) (by simp; omega) (fun τ q f _ e z => q1 τ q f e z) (fun τ f _ e => q2 τ f e)
theorem x_ring {d : Nat} {σ : zM} {K : zM → Option zV → Prop} {C : Nat} {law least draw : Int} {l : List Int} {p : Nat → Int} (hg : zgd C law least draw l p) (hx : zXn σ C law least draw l p) {n i : Int} (q1 : ¬ ((1 ≤ n ∧ n ≤ 8) ∧ 0 ≤ i ∧ i < n) → K σ (some (vI (-1)))) (q2 : ∀ (N : Nat) q, n = N → 1 ≤ N → N ≤ 8 → 0 ≤ i → i < N → zfd C law least (zringb law least) N [] = some q → ∀ τ, zfr [2, 3] [2, 3] σ τ → K τ (some (vI (zlf q i.toNat)))) (q3 : ∀ N : Nat, n = N → 1 ≤ N → N ≤ 8 → 0 ≤ i → i < N → zfd C law least (zringb law least) N [] = none → ∀ τ, zfr [2, 3] [2, 3] σ τ → K τ (some (vI (-4)))) : zC (d + 39 + 1) 50 [vR (0), vI (n), vI (i)] σ K := by
  have hl := hg.2.2.1
  have hb := hg.1
  have hC := hg.1.1
  have hC4 := hg.1.2.1
  refine zC_in rfl ?_
  show zG (d + 39) 50 K 0 zfx (0, [vR (0), vI (n), vI (i)], [], σ)
  refine r_iload k_50_0 rfl ?_
  refine r_const k_50_1 ?_
  refine r_ic_lt k_50_2 (fun h2 => ?_) (fun h2 => ?_)
  · skip
    refine r_const k_50_20 ?_
    refine r_iret k_50_21 ?_
    exact q1 (by omega)
  · skip
    refine r_iload k_50_5 rfl ?_
    refine r_const k_50_6 ?_
    refine r_ic_gt k_50_8 (fun h8 => ?_) (fun h8 => ?_)
    · skip
      refine r_const k_50_20 ?_
      refine r_iret k_50_21 ?_
      exact q1 (by omega)
    · skip
      refine r_iload k_50_11 rfl ?_
      refine r_if_lt k_50_12 (fun h12 => ?_) (fun h12 => ?_)
      · skip
        refine r_const k_50_20 ?_
        refine r_iret k_50_21 ?_
        exact q1 (by omega)
      · skip
        refine r_iload k_50_15 rfl ?_
        refine r_iload k_50_16 rfl ?_
        refine r_ic_lt k_50_17 (fun h17 => ?_) (fun h17 => ?_)
        · skip
          refine r_aload k_50_22 rfl ?_
          refine r_getR (q := 22) k_50_23 ⟨rfl, rfl⟩ ?_
          refine r_const k_50_26 ?_
          refine r_putS k_50_27 ⟨rfl, rfl⟩ ?_
          refine r_aload k_50_30 rfl ?_
          refine r_getR (q := 24) k_50_31 ⟨rfl, rfl⟩ ?_
          refine r_const k_50_34 ?_
          refine r_putS k_50_35 ⟨rfl, rfl⟩ ?_
          refine r_aload k_50_38 rfl ?_
          refine r_getR (q := 1) k_50_39 ⟨rfl, rfl⟩ ?_
          refine r_getR (q := 4) k_50_42 ⟨rfl, rfl⟩ ?_
          refine r_aload k_50_45 rfl ?_
          refine r_getR (q := 22) k_50_46 ⟨rfl, rfl⟩ ?_
          refine r_iload k_50_49 rfl ?_
          refine r_const k_50_50 ?_
          refine r_aload k_50_51 rfl ?_
          refine r_getR (q := 24) k_50_52 ⟨rfl, rfl⟩ ?_
          refine r_call (as := [vR (4), vR (22), vI (n), vI (0), vR (24)]) (r := []) k_50_55 rfl rfl rfl ?_
          obtain ⟨N, hN⟩ : ∃ N : Nat, n = N := ⟨n.toNat, by omega⟩
          refine v_findRinge hN hg.1 (d := d + 25) (by omega) (zrl_fr hx.1 (zfr_S (zfr_S (S := [2, 3]) (A := []) zfr_rf (by decide)) (by decide)) (by decide)) ⟨by rw [zS_n (by decide)]; exact zS_1 _ _ _, fun k hk => absurd hk (Nat.not_lt_zero _)⟩ (fun τ1 q f1 hS z1 => ?_) (fun τ1 f1 hS => ?_)
          · skip
            have F1 : zfr [2, 3] [2, 3] σ τ1 := zfr_tr (zfr_S (zfr_S (S := [2, 3]) (A := []) zfr_rf (by decide)) (by decide)) f1 (by decide) (by decide)
            have hqm := zenu_mem N [] q (List.mem_of_find?_eq_some ((zenu_fd N []).trans hS)) zfau_nil (fun x hx => absurd hx List.not_mem_nil)
            have hql : q.length = N := by rw [hqm.1]; simp
            refine r_if_eq k_50_58 (fun hz => absurd hz (by decide)) (fun _ => ?_)
            refine r_aload k_50_61 rfl ?_
            refine r_getR (q := 24) k_50_62 ⟨rfl, rfl⟩ ?_
            refine r_iload k_50_65 rfl ?_
            refine r_call (as := [vR (24), vI (i)]) (r := []) k_50_66 rfl rfl rfl ?_
            refine v_at (r := 3) (l := q) (k := i.toNat) (by decide) z1 (by omega) (by omega) (by omega) ?_
            refine r_goto k_50_69 ?_
            refine r_iret k_50_74 ?_
            exact q2 N q hN (by omega) (by omega) (by omega) (by omega) hS _ F1
          · skip
            have F1 : zfr [2, 3] [2, 3] σ τ1 := zfr_tr (zfr_S (zfr_S (S := [2, 3]) (A := []) zfr_rf (by decide)) (by decide)) f1 (by decide) (by decide)
            refine r_if_eq k_50_58 (fun _ => ?_) (fun hz => absurd hz (by decide))
            refine r_const k_50_72 ?_
            refine r_iret k_50_74 ?_
            exact q3 N hN (by omega) (by omega) (by omega) (by omega) hS _ F1
        · skip
          refine r_const k_50_20 ?_
          refine r_iret k_50_21 ?_
          exact q1 (by omega)
theorem y_ring {d : Nat} {σ : zM} {K : zM → Option zV → Prop} {C : Nat} {law least draw : Int} {l : List Int} {p : Nat → Int} (hg : zgd C law least draw l p) (hy : zYn (σ.2 12) C law least draw l p) {n i : Int} (q1 : ¬ ((1 ≤ n ∧ n ≤ 8) ∧ 0 ≤ i ∧ i < n) → K σ (some (vI (-1)))) (q2 : ∀ (N : Nat) q, n = N → 1 ≤ N → N ≤ 8 → 0 ≤ i → i < N → zfd C law least (zringb law least) N [] = some q → ∀ τ, zfr [] [18, 19, 21] σ τ → K τ (some (vI (zlf q i.toNat)))) (q3 : ∀ N : Nat, n = N → 1 ≤ N → N ≤ 8 → 0 ≤ i → i < N → zfd C law least (zringb law least) N [] = none → ∀ τ, zfr [] [18, 19, 21] σ τ → K τ (some (vI (-4)))) : zC (d + 5 + 1) 108 [vR (27), vI (n), vI (i)] σ K := by
  have hl := hg.2.2.1
  have hb := hg.1
  have hC := hg.1.1
  have hC4 := hg.1.2.1
  refine zC_in rfl ?_
  have lpx : ∀ (m : Nat) (τ : zM), K τ (some (vI (-4))) → zG (d + 5) 108 K 0 zfx (34, [vR (27), vI (n), vI (i), vI (0)], [], τ) := by
    intro m
    induction m using Nat.strongRecOn with
    | _ m ih =>
    intro τ hq
    refine r_iload k_108_34 rfl ?_
    refine r_if_eq k_108_35 (fun _ => ?_) (fun hz => absurd hz (by decide))
    refine r_iload k_108_56 rfl ?_
    refine r_if_eq k_108_57 (fun _ => ?_) (fun hz => absurd hz (by decide))
    refine r_const k_108_69 ?_
    refine r_iret k_108_71 ?_
    exact hq
  have lp : ∀ (m : Nat) (N : Nat) (q : List Int) (R : List (List Int)) (τ : zM), R.length = m → n = N → 1 ≤ N → N ≤ 8 → 0 ≤ i → i < N → znx C law least N q R → zfr [] [18, 19, 21] σ τ → zrs τ q → (∀ q2, (q :: R).find? (zringb law least) = some q2 → ∀ υ, zfr [] [18, 19, 21] σ υ → K υ (some (vI (zlf q2 i.toNat)))) → ((q :: R).find? (zringb law least) = none → ∀ υ, zfr [] [18, 19, 21] σ υ → K υ (some (vI (-4)))) → zG (d + 5) 108 K 0 zfx (34, [vR (27), vI (n), vI (i), vI (1)], [], τ) := by
    intro m
    induction m using Nat.strongRecOn with
    | _ m ih =>
    intro N q R τ hm hN n1 n9 i0 iN hnx hf hrs hq2 hq3
    refine r_iload k_108_34 rfl ?_
    refine r_if_eq k_108_35 (fun hz => absurd hz (by decide)) (fun _ => ?_)
    refine r_aload k_108_38 rfl ?_
    refine r_iload k_108_39 rfl ?_
    refine r_call (as := [vR (27), vI (n)]) (r := []) k_108_40 rfl rfl rfl ?_
    have hYr : zYn (τ.2 12) C law least draw l p := by rw [hf.2 12 (by decide)]; exact hy
    refine y_isRing (q := q) ⟨hg.1.2.2.1, hg.1.2.2.2.1⟩ hg.1.2.2.2.2 hYr.2.1 hYr.2.2.1 (by rw [hnx.2.1]; exact hN) (by rw [hnx.2.1]; exact n1) (by rw [hnx.2.1]; exact n9) (znx_col hnx (by omega)) hnx.2.2.1 hrs (fun τ5 f5 z5 => ?_)
    have F5 : zfr [] [18, 19, 21] σ τ5 := zfr_2 hf f5 (by decide) (by decide)
    refine r_if_ne k_108_43 (fun h43 => ?_) (fun h43 => ?_)
    · skip
      refine r_iload k_108_56 rfl ?_
      refine r_if_eq k_108_57 (fun hz => absurd hz (by decide)) (fun _ => ?_)
      refine r_aload k_108_60 rfl ?_
      refine r_getR (q := 34) k_108_61 ⟨rfl, rfl⟩ ?_
      refine r_iload k_108_64 rfl ?_
      refine r_iald (v := (zlf q i.toNat)) k_108_65 ⟨rfl, rfl⟩ ⟨by omega, by omega⟩ (z5 _ (by rw [hnx.2.1]; omega)) ?_
      refine r_goto k_108_66 ?_
      refine r_iret k_108_71 ?_
      have hrg : zringb law least q = true := zb1_ne.mp (by omega)
      exact hq2 q (by rw [List.find?_cons, hrg]) _ F5
    · skip
      refine r_aload k_108_46 rfl ?_
      refine r_iload k_108_47 rfl ?_
      refine r_const k_108_48 ?_
      refine r_call (as := [vR (27), vI (n), vI (0)]) (r := []) k_108_49 rfl rfl rfl ?_
      have hYq : zYn ((τ5).2 12) C law least draw l p := by rw [F5.2 12 (by decide)]; exact hy
      refine t_nexte hN ⟨hg.1.2.2.1, hg.1.2.2.2.1⟩ hg.1.2.2.2.2 (by omega) hYq.1 hYq.2.1 hYq.2.2.1 (by omega) (p := q) hnx.2.1 hnx.2.2.2 z5 (fun q2 R2 hS τ2 f2 z2 => ?_) (fun hS τ2 f2 => ?_)
      · skip
        have F2 : zfr [] [18, 19, 21] σ τ2 := zfr_2 F5 f2 (by decide) (by decide)
        refine r_istore (L' := [vR (27), vI (n), vI (i), vI (1)]) k_108_52 rfl ?_
        refine r_goto k_108_53 ?_
        have hrg : zringb law least q = false := zb1_e.mp (by omega)
        have ef : (q :: R).find? (zringb law least) = R.find? (zringb law least) := by rw [List.find?_cons, hrg]
        have e2 : R = q2 :: R2 := hnx.1.trans hS
        have eR : R.length = R2.length + 1 := by rw [e2]; rfl
        rw [ef, e2] at hq2 hq3
        exact ih R2.length (by omega) N q2 R2 _ rfl hN n1 n9 i0 iN (znx_next hnx e2) F2 z2 hq2 hq3
      · skip
        have F2 : zfr [] [18, 19, 21] σ τ2 := zfr_2 F5 f2 (by decide) (by decide)
        refine r_istore (L' := [vR (27), vI (n), vI (i), vI (0)]) k_108_52 rfl ?_
        refine r_goto k_108_53 ?_
        have hrg : zringb law least q = false := zb1_e.mp (by omega)
        have ef : (q :: R).find? (zringb law least) = R.find? (zringb law least) := by rw [List.find?_cons, hrg]
        exact lpx 0 _ (hq3 (by rw [ef, hnx.1, hS]; rfl) _ F2)
  show zG (d + 5) 108 K 0 zfx (0, [vR (27), vI (n), vI (i), vU], [], σ)
  refine r_iload k_108_0 rfl ?_
  refine r_cnv (w := vL (n)) k_108_1 rfl ?_
  refine r_lconst k_108_2 ?_
  refine r_lconst k_108_3 ?_
  refine r_call (as := [vL (n), vL (1), vL (8)]) (r := []) k_108_6 rfl rfl rfl ?_
  refine t_in (fun g6 => ?_) (fun g6 => ?_)
  · skip
    refine r_if_eq k_108_9 (fun hz => absurd hz (by decide)) (fun _ => ?_)
    refine r_iload k_108_12 rfl ?_
    refine r_cnv (w := vL (i)) k_108_13 rfl ?_
    refine r_lconst k_108_14 ?_
    refine r_iload k_108_15 rfl ?_
    refine r_const k_108_16 ?_
    refine r_bin (v := n - 1) k_108_17 (zb_sub ⟨by omega, by omega⟩) ?_
    refine r_cnv (w := vL (n - 1)) k_108_18 rfl ?_
    refine r_call (as := [vL (i), vL (0), vL (n - 1)]) (r := []) k_108_19 rfl rfl rfl ?_
    refine t_in (fun g19 => ?_) (fun g19 => ?_)
    · skip
      refine r_if_ne k_108_22 (fun _ => ?_) (fun hz => absurd hz (by decide))
      refine r_aload k_108_27 rfl ?_
      refine r_iload k_108_28 rfl ?_
      refine r_const k_108_29 ?_
      refine r_call (as := [vR (27), vI (n), vI (1)]) (r := []) k_108_30 rfl rfl rfl ?_
      obtain ⟨N, hN⟩ : ∃ N : Nat, n = N := ⟨n.toNat, by omega⟩
      refine t_firste hN ⟨hg.1.2.2.1, hg.1.2.2.2.1⟩ hg.1.2.2.2.2 (by omega) hy.1 hy.2.1 hy.2.2.1 (by omega) (by omega) (fun q R hS τ1 f1 z1 => ?_) (fun hS τ1 f1 => ?_)
      · skip
        have F1 : zfr [] [18, 19, 21] σ τ1 := zfr_w f1 (by decide) (by decide)
        refine r_istore (L' := [vR (27), vI (n), vI (i), vI (1)]) k_108_33 rfl ?_
        exact lp _ N q R _ rfl hN (by omega) (by omega) (by omega) (by omega) (zenu_nx (by omega) hS) F1 z1 (fun qq h2 υ fu => q2 N qq hN (by omega) (by omega) (by omega) (by omega) (by rw [← zenu_fd, hS]; exact h2) υ fu) (fun h2 υ fu => q3 N hN (by omega) (by omega) (by omega) (by omega) (by rw [← zenu_fd, hS]; exact h2) υ fu)
      · skip
        have F1 : zfr [] [18, 19, 21] σ τ1 := zfr_w f1 (by decide) (by decide)
        refine r_istore (L' := [vR (27), vI (n), vI (i), vI (0)]) k_108_33 rfl ?_
        exact lpx 0 _ (q3 N hN (by omega) (by omega) (by omega) (by omega) (by rw [← zenu_fd, hS]; rfl) _ F1)
    · skip
      refine r_if_ne k_108_22 (fun hz => absurd hz (by decide)) (fun _ => ?_)
      refine r_const k_108_25 ?_
      refine r_iret k_108_26 ?_
      exact q1 (by omega)
  · skip
    refine r_if_eq k_108_9 (fun _ => ?_) (fun hz => absurd hz (by decide))
    refine r_const k_108_25 ?_
    refine r_iret k_108_26 ?_
    exact q1 (by omega)
theorem p_ring {d : Nat} {σ : zM} (h : zInv σ) {n i : Int} : zC (d + 41) 50 [vR 0, vI n, vI i] σ (fun σ1 r1 => zC (d + 6) 108 [vR 27, vI n, vI i] σ1 (zpq σ1 r1)) := by
  obtain ⟨C, law, least, draw, l, p, hg, hx, hy⟩ := h.1
  refine x_ring (d := d + 1) hg hx (fun q => y_ring hg hy (fun _ => ⟨⟨_, rfl, rfl⟩, h⟩) (fun N q' e1 e2 e3 e4 e5 => absurd ⟨⟨by omega, by omega⟩, e4, by omega⟩ q) (fun N e1 e2 e3 e4 e5 => absurd ⟨⟨by omega, by omega⟩, e4, by omega⟩ q)) (fun N q' e1 e2 e3 e4 e5 e6 τ f => ?_) (fun N e1 e2 e3 e4 e5 e6 τ f => ?_)
  · have hy2 : zYn (τ.2 12) C law least draw l p := by rw [f.2 12 (by decide)]; exact hy
    refine y_ring hg hy2 (fun q => absurd ⟨⟨by omega, by omega⟩, e4, by omega⟩ q) (fun N2 q2 g1 _ _ _ _ g6 υ f2 => ?_) (fun N2 g1 _ _ _ _ g6 => ?_)
    · obtain rfl : N2 = N := by omega
      rw [e6] at g6
      obtain rfl := Option.some.inj g6
      exact ⟨⟨_, rfl, rfl⟩, zInv_fr (zInv_fr h f (by decide) (by decide)) f2 (by decide) (by decide)⟩
    · obtain rfl : N2 = N := by omega
      rw [e6] at g6; cases g6
  · have hy2 : zYn (τ.2 12) C law least draw l p := by rw [f.2 12 (by decide)]; exact hy
    refine y_ring hg hy2 (fun q => absurd ⟨⟨by omega, by omega⟩, e4, by omega⟩ q) (fun N2 q2 g1 _ _ _ _ g6 => ?_) (fun N2 g1 _ _ _ _ g6 υ f2 => ?_)
    · obtain rfl : N2 = N := by omega
      rw [e6] at g6; cases g6
    · exact ⟨⟨_, rfl, rfl⟩, zInv_fr (zInv_fr h f (by decide) (by decide)) f2 (by decide) (by decide)⟩
