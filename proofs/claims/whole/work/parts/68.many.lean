/-! many: the two alike -/
theorem zct_all {C : Nat} {law least : Int} {N : Nat} : zct C law least (zqr 0 law least) N [] = (zenu C law least N []).length := by
  have e : (zenu C law least N []).filter (zqr 0 law least) = zenu C law least N [] := List.filter_eq_self.mpr (fun q _ => rfl)
  rw [← zenu_ct, e]
theorem x_many {d : Nat} {σ : zM} {K : zM → Option zV → Prop} {C : Nat} {law least draw : Int} {l : List Int} {p : Nat → Int} (hg : zgd C law least draw l p) (hx : zXn σ C law least draw l p) {n : Int} (q1 : ¬ (0 ≤ n ∧ n ≤ 9) → K σ (some (vI (-1)))) (q2 : ∀ N : Nat, n = N → 0 ≤ N → N ≤ 9 → ∀ τ, zfr [2] [2] σ τ → K τ (some (vI ((zct C law least (zqr 0 law least) N [] : Nat) : Int)))) : zC (d + 39 + 1) 47 [vR (0), vI (n)] σ K := by
  have hl := hg.2.2.1
  have hb := hg.1
  have hC := hg.1.1
  have hC4 := hg.1.2.1
  refine zC_in rfl ?_
  show zG (d + 39) 47 K 0 zfx (0, [vR (0), vI (n)], [], σ)
  refine r_iload k_47_0 rfl ?_
  refine r_if_lt k_47_1 (fun h1 => ?_) (fun h1 => ?_)
  · skip
    refine r_const k_47_10 ?_
    refine r_iret k_47_11 ?_
    exact q1 (by omega)
  · skip
    refine r_iload k_47_4 rfl ?_
    refine r_const k_47_5 ?_
    refine r_ic_le k_47_7 (fun h7 => ?_) (fun h7 => ?_)
    · skip
      refine r_aload k_47_12 rfl ?_
      refine r_getR (q := 22) k_47_13 ⟨rfl, rfl⟩ ?_
      refine r_const k_47_16 ?_
      refine r_putS k_47_17 ⟨rfl, rfl⟩ ?_
      refine r_aload k_47_20 rfl ?_
      refine r_getR (q := 1) k_47_21 ⟨rfl, rfl⟩ ?_
      refine r_getR (q := 4) k_47_24 ⟨rfl, rfl⟩ ?_
      refine r_aload k_47_27 rfl ?_
      refine r_getR (q := 22) k_47_28 ⟨rfl, rfl⟩ ?_
      refine r_iload k_47_31 rfl ?_
      refine r_const k_47_32 ?_
      refine r_const k_47_33 ?_
      refine r_call (as := [vR (4), vR (22), vI (n), vI (0), vI (0)]) (r := []) k_47_34 rfl rfl rfl ?_
      obtain ⟨N, hN⟩ : ∃ N : Nat, n = N := ⟨n.toNat, by omega⟩
      subst hN
      refine v_rows (rnd := 0) hg.1 N (d + 39) (by omega) (by omega) (l := []) (u := 0) (zrl_fr hx.1 (zfr_S (S := [2]) (A := []) zfr_rf (by decide)) (by decide)) ⟨zS_1 _ _ _, fun k hk => absurd hk (Nat.not_lt_zero _)⟩ zcol_nil (fun x hx => absurd hx List.not_mem_nil) (by omega) (by simp; omega) (fun τ1 f1 z1 => ?_)
      have F1 : zfr [2] [2] σ τ1 := zfr_tr (zfr_S (S := [2]) (A := []) zfr_rf (by decide)) f1 (by decide) (by decide)
      refine r_iret k_47_37 ?_
      exact q2 N rfl (by omega) (by omega) _ F1
    · skip
      refine r_const k_47_10 ?_
      refine r_iret k_47_11 ?_
      exact q1 (by omega)
theorem t_firste {d : Nat} {σ : zM} {K : zM → Option zV → Prop} {C : Nat} {law least : Int} {N : Nat} {x : Int} (hx : x = N) (hL : 0 ≤ law ∧ law ≤ 3) (hM : 1 ≤ least ∧ least ≤ 9) (hC : C ≤ 4) (h10 : σ.2 12 0 = (C : Int)) (h12 : σ.2 12 1 = law) (h13 : σ.2 12 2 = least) (hN : N ≤ 40) (hN1 : 1 ≤ N) (hq : ∀ q R, zenu C law least N [] = q :: R → ∀ υ, zfr [] [18, 19] σ υ → zrs υ q → K υ (some (vI 1))) (hd : zenu C law least N [] = [] → ∀ υ, zfr [] [18, 19] σ υ → K υ (some (vI 0))) : zC (d + 3) 104 [vR 27, vI x, vI 1] σ K := by
  subst hx
  exact t_first hL hM hC h10 h12 h13 hN hN1 hq hd
theorem t_nexte {d : Nat} {σ : zM} {K : zM → Option zV → Prop} {C : Nat} {law least : Int} {N : Nat} {x : Int} (hx : x = N) (hL : 0 ≤ law ∧ law ≤ 3) (hM : 1 ≤ least ∧ least ≤ 9) (hC : C ≤ 4) (h10 : σ.2 12 0 = (C : Int)) (h12 : σ.2 12 1 = law) (h13 : σ.2 12 2 = least) (hN : N ≤ 40) {p : List Int} (hp : p.length = N) (hpc : ∀ x ∈ p, 0 ≤ x ∧ x < (C : Int)) (hrs : zrs σ p) (hq : ∀ q R, zbk C law least 0 p.reverse = q :: R → ∀ υ, zfr [] [18, 19] σ υ → zrs υ q → K υ (some (vI 1))) (hd : zbk C law least 0 p.reverse = [] → ∀ υ, zfr [] [18, 19] σ υ → K υ (some (vI 0))) : zC (d + 3) 104 [vR 27, vI x, vI 0] σ K := by
  subst hx
  exact t_next hL hM hC h10 h12 h13 hN hp hpc hrs hq hd
theorem y_many {d : Nat} {σ : zM} {K : zM → Option zV → Prop} {C : Nat} {law least draw : Int} {l : List Int} {p : Nat → Int} (hg : zgd C law least draw l p) (hy : zYn (σ.2 12) C law least draw l p) {n : Int} (q1 : ¬ (0 ≤ n ∧ n ≤ 9) → K σ (some (vI (-1)))) (q2 : ∀ N : Nat, n = N → 0 ≤ N → N ≤ 9 → ∀ τ, zfr [] [18, 19] σ τ → K τ (some (vI ((zct C law least (zqr 0 law least) N [] : Nat) : Int)))) : zC (d + 3 + 1) 105 [vR (27), vI (n)] σ K := by
  have hl := hg.2.2.1
  have hb := hg.1
  have hC := hg.1.1
  have hC4 := hg.1.2.1
  refine zC_in rfl ?_
  have lpx : ∀ (m : Nat) (r : Int) (τ : zM), K τ (some (vI r)) → zG (d + 3) 105 K 0 zfx (43, [vR (27), vI (n), vI (r), vI (0)], [], τ) := by
    intro m
    induction m using Nat.strongRecOn with
    | _ m ih =>
    intro r τ hq
    refine r_iload k_105_43 rfl ?_
    refine r_if_eq k_105_44 (fun _ => ?_) (fun hz => absurd hz (by decide))
    refine r_iload k_105_60 rfl ?_
    refine r_iret k_105_61 ?_
    exact hq
  have lp : ∀ (m : Nat) (N k : Nat) (q : List Int) (R : List (List Int)) (τ : zM), R.length = m → n = N → N ≤ 9 → k + 1 + R.length ≤ 262144 → znx C law least N q R → zfr [] [18, 19] σ τ → zrs τ q → (∀ υ, zfr [] [18, 19] σ υ → K υ (some (vI ((k : Int) + 1 + (R.length : Int))))) → zG (d + 3) 105 K 0 zfx (43, [vR (27), vI (n), vI ((k : Int)), vI (1)], [], τ) := by
    intro m
    induction m using Nat.strongRecOn with
    | _ m ih =>
    intro N k q R τ hm hN n9 hT hnx hf hrs hq
    refine r_iload k_105_43 rfl ?_
    refine r_if_eq k_105_44 (fun hz => absurd hz (by decide)) (fun _ => ?_)
    refine r_iinc (v := (k : Int) + 1) (L' := [vR (27), vI (n), vI ((k : Int) + 1), vI (1)]) k_105_47 rfl (zb_add ⟨by omega, by omega⟩) rfl ?_
    refine r_aload k_105_50 rfl ?_
    refine r_iload k_105_51 rfl ?_
    refine r_const k_105_52 ?_
    refine r_call (as := [vR (27), vI (n), vI (0)]) (r := []) k_105_53 rfl rfl rfl ?_
    have hYq : zYn ((τ).2 12) C law least draw l p := by rw [hf.2 12 (by decide)]; exact hy
    refine t_nexte hN ⟨hg.1.2.2.1, hg.1.2.2.2.1⟩ hg.1.2.2.2.2 (by omega) hYq.1 hYq.2.1 hYq.2.2.1 (by omega) (p := q) hnx.2.1 hnx.2.2.2 hrs (fun q2 R2 hS τ2 f2 z2 => ?_) (fun hS τ2 f2 => ?_)
    · skip
      have F2 : zfr [] [18, 19] σ τ2 := zfr_2 hf f2 (by decide) (by decide)
      refine r_istore (L' := [vR (27), vI (n), vI ((k : Int) + 1), vI (1)]) k_105_56 rfl ?_
      refine r_goto k_105_57 ?_
      have e2 : R = q2 :: R2 := hnx.1.trans hS
      have eR : R.length = R2.length + 1 := by rw [e2]; rfl
      exact ih R2.length (by omega) N (k + 1) q2 R2 _ rfl hN n9 (by omega) (znx_next hnx e2) F2 z2 (fun υ fu => zKe (hq υ fu) (by omega))
    · skip
      have F2 : zfr [] [18, 19] σ τ2 := zfr_2 hf f2 (by decide) (by decide)
      refine r_istore (L' := [vR (27), vI (n), vI ((k : Int) + 1), vI (0)]) k_105_56 rfl ?_
      refine r_goto k_105_57 ?_
      exact lpx 0 _ _ (zKe (hq _ F2) (by rw [hnx.1, hS, List.length_nil]; omega))
  show zG (d + 3) 105 K 0 zfx (0, [vR (27), vI (n), vU, vU], [], σ)
  refine r_iload k_105_0 rfl ?_
  refine r_cnv (w := vL (n)) k_105_1 rfl ?_
  refine r_lconst k_105_2 ?_
  refine r_lconst k_105_3 ?_
  refine r_call (as := [vL (n), vL (0), vL (9)]) (r := []) k_105_6 rfl rfl rfl ?_
  refine t_in (fun g6 => ?_) (fun g6 => ?_)
  · skip
    refine r_if_ne k_105_9 (fun _ => ?_) (fun hz => absurd hz (by decide))
    refine r_iload k_105_14 rfl ?_
    refine r_if_ne k_105_15 (fun h15 => ?_) (fun h15 => ?_)
    · skip
      refine r_const k_105_22 ?_
      refine r_istore (L' := [vR (27), vI (n), vI (0), vU]) k_105_23 rfl ?_
      refine r_iload k_105_24 rfl ?_
      refine r_if_le k_105_25 (fun h25 => ?_) (fun h25 => ?_)
      · skip
        refine r_const k_105_41 ?_
        refine r_istore (L' := [vR (27), vI (n), vI (0), vI (0)]) k_105_42 rfl ?_
        exfalso; omega
      · skip
        refine r_aload k_105_28 rfl ?_
        refine r_iload k_105_29 rfl ?_
        refine r_const k_105_30 ?_
        refine r_call (as := [vR (27), vI (n), vI (1)]) (r := []) k_105_31 rfl rfl rfl ?_
        obtain ⟨N, hN⟩ : ∃ N : Nat, n = N := ⟨n.toNat, by omega⟩
        refine t_firste hN ⟨hg.1.2.2.1, hg.1.2.2.2.1⟩ hg.1.2.2.2.2 (by omega) hy.1 hy.2.1 hy.2.2.1 (by omega) (by omega) (fun q R hS τ1 f1 z1 => ?_) (fun hS τ1 f1 => ?_)
        · skip
          have F1 : zfr [] [18, 19] σ τ1 := zfr_w f1 (by decide) (by decide)
          refine r_if_eq k_105_34 (fun hz => absurd hz (by decide)) (fun _ => ?_)
          refine r_const k_105_37 ?_
          refine r_goto k_105_38 ?_
          refine r_istore (L' := [vR (27), vI (n), vI (0), vI (1)]) k_105_42 rfl ?_
          have hb2 := zct_b (C := C) (law := law) (least := least) (Q := zqr 0 law least) (by omega) (m := N) (by omega) []
          have e2 := zct_all (C := C) (law := law) (least := least) (N := N)
          rw [hS, List.length_cons] at e2
          exact lp _ N 0 q R _ rfl hN (by omega) (by omega) (zenu_nx (by omega) hS) F1 z1 (fun υ fu => zKe (q2 N hN (by omega) (by omega) υ fu) (by omega))
        · skip
          have F1 : zfr [] [18, 19] σ τ1 := zfr_w f1 (by decide) (by decide)
          refine r_if_eq k_105_34 (fun _ => ?_) (fun hz => absurd hz (by decide))
          refine r_const k_105_41 ?_
          refine r_istore (L' := [vR (27), vI (n), vI (0), vI (0)]) k_105_42 rfl ?_
          exact lpx 0 _ _ (zKe (q2 N hN (by omega) (by omega) _ F1) (by rw [zct_all, hS]; rfl))
    · skip
      refine r_const k_105_18 ?_
      refine r_goto k_105_19 ?_
      refine r_istore (L' := [vR (27), vI (n), vI (1), vU]) k_105_23 rfl ?_
      refine r_iload k_105_24 rfl ?_
      refine r_if_le k_105_25 (fun h25 => ?_) (fun h25 => ?_)
      · skip
        refine r_const k_105_41 ?_
        refine r_istore (L' := [vR (27), vI (n), vI (1), vI (0)]) k_105_42 rfl ?_
        have e : n = 0 := by omega
        exact lpx 0 _ _ (q2 0 (by omega) (by omega) (by omega) _ zfr_rf)
      · skip
        refine r_aload k_105_28 rfl ?_
        refine r_iload k_105_29 rfl ?_
        refine r_const k_105_30 ?_
        refine r_call (as := [vR (27), vI (n), vI (1)]) (r := []) k_105_31 rfl rfl rfl ?_
        obtain ⟨N, hN⟩ : ∃ N : Nat, n = N := ⟨n.toNat, by omega⟩
        refine t_firste hN ⟨hg.1.2.2.1, hg.1.2.2.2.1⟩ hg.1.2.2.2.2 (by omega) hy.1 hy.2.1 hy.2.2.1 (by omega) (by omega) (fun q R hS τ1 f1 z1 => ?_) (fun hS τ1 f1 => ?_)
        · skip
          have F1 : zfr [] [18, 19] σ τ1 := zfr_w f1 (by decide) (by decide)
          refine r_if_eq k_105_34 (fun hz => absurd hz (by decide)) (fun _ => ?_)
          refine r_const k_105_37 ?_
          refine r_goto k_105_38 ?_
          refine r_istore (L' := [vR (27), vI (n), vI (1), vI (1)]) k_105_42 rfl ?_
          exfalso; omega
        · skip
          have F1 : zfr [] [18, 19] σ τ1 := zfr_w f1 (by decide) (by decide)
          refine r_if_eq k_105_34 (fun _ => ?_) (fun hz => absurd hz (by decide))
          refine r_const k_105_41 ?_
          refine r_istore (L' := [vR (27), vI (n), vI (1), vI (0)]) k_105_42 rfl ?_
          exfalso; omega
  · skip
    refine r_if_ne k_105_9 (fun hz => absurd hz (by decide)) (fun _ => ?_)
    refine r_const k_105_12 ?_
    refine r_iret k_105_13 ?_
    exact q1 (by omega)
theorem p_many {d : Nat} {σ : zM} (h : zInv σ) {n : Int} : zC (d + 41) 47 [vR 0, vI n] σ (fun σ1 r1 => zC (d + 5) 105 [vR 27, vI n] σ1 (zpq σ1 r1)) := by
  obtain ⟨C, law, least, draw, l, p, hg, hx, hy⟩ := h.1
  refine x_many (d := d + 1) hg hx (fun q => y_many (d := d + 1) hg hy (fun _ => ⟨⟨_, rfl, rfl⟩, h⟩) (fun N e1 e2 e3 => absurd ⟨by omega, by omega⟩ q)) (fun N e1 e2 e3 τ f => ?_)
  have hy2 : zYn (τ.2 12) C law least draw l p := by rw [f.2 12 (by decide)]; exact hy
  exact y_many (d := d + 1) hg hy2 (fun q => absurd ⟨by omega, by omega⟩ q) (fun N2 e4 _ _ υ f2 => ⟨⟨_, rfl, by rw [show N2 = N by omega]⟩, zInv_fr (zInv_fr h f (by decide) (by decide)) f2 (by decide) (by decide)⟩)
