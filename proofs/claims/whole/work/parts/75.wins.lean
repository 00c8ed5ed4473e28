/-! wins: the two alike -/
theorem v_winse1 {d : Nat} {σ : zM} {K : zM → Option zV → Prop} {C : Nat} {law least : Int} {l : List Int} {N : Nat} {x : Int} (hx : x = N) (hb : zbd C law least) (hN : N ≤ 8) (hw : zrl σ C law least) (hz : zis σ 2 l) (hc : zcol l) (hl : l.length ≤ 48) (q1 : ∀ τ, zfr [2] [2] σ τ → zis τ 2 l → K τ (some (vI (zb1 (decide (zval C law least N l = 1)))))) : zC (d + 14) 55 [vR 4, vR 22, vI x] σ K := by
  subst hx
  exact (v_wins hb N).1 (d + 14) (by omega) hw hz hc (by omega) q1
theorem v_winse2 {d : Nat} {σ : zM} {K : zM → Option zV → Prop} {C : Nat} {law least : Int} {l : List Int} {N : Nat} {x : Int} (hx : x = N) (hb : zbd C law least) (hN : N ≤ 8) (hw : zrl σ C law least) (hz : zis σ 2 l) (hc : zcol l) (hl : l.length ≤ 48) (q1 : ∀ τ, zfr [2] [2] σ τ → zis τ 2 l → K τ (some (vI (zb1 (decide (zval C law least N l = 0)))))) : zC (d + 14) 56 [vR 4, vR 22, vI x] σ K := by
  subst hx
  exact (v_wins hb N).2 (d + 14) (by omega) hw hz hc (by omega) q1
theorem x_wins {d : Nat} {σ : zM} {K : zM → Option zV → Prop} {C : Nat} {law least draw : Int} {l : List Int} {p : Nat → Int} (hg : zgd C law least draw l p) (hx : zXn σ C law least draw l p) {n : Int} (q1 : ¬ (0 ≤ n ∧ n ≤ 8) → K σ (some (vI (-1)))) (q2 : 0 ≤ n → n ≤ 8 → zfau law least l ≠ 0 → ∀ τ, zfr [2] [2] σ τ → K τ (some (vI (-2)))) (q3 : ∀ N : Nat, n = N → N ≤ 8 → zfau law least l = 0 → ∀ τ, zfr [2] [2] σ τ → K τ (some (vI ((zval C law least N l : Nat) : Int)))) : zC (d + 14 + 1) 54 [vR (0), vI (n)] σ K := by
  have hl := hg.2.2.1
  have hb := hg.1
  have hC := hg.1.1
  have hC4 := hg.1.2.1
  have F0 : zfr [2] [2] σ σ := zfr_rf
  refine zC_in rfl ?_
  show zG (d + 14) 54 K 0 zfx (0, [vR (0), vI (n)], [], σ)
  refine r_iload k_54_0 rfl ?_
  refine r_if_lt k_54_1 (fun h1 => ?_) (fun h1 => ?_)
  · skip
    refine r_const k_54_10 ?_
    refine r_iret k_54_11 ?_
    exact q1 (by omega)
  · skip
    refine r_iload k_54_4 rfl ?_
    refine r_const k_54_5 ?_
    refine r_ic_le k_54_7 (fun h7 => ?_) (fun h7 => ?_)
    · skip
      refine r_aload k_54_12 rfl ?_
      refine r_getR (q := 1) k_54_13 ⟨rfl, rfl⟩ ?_
      refine r_getR (q := 4) k_54_16 ⟨rfl, rfl⟩ ?_
      refine r_aload k_54_19 rfl ?_
      refine r_getR (q := 1) k_54_20 ⟨rfl, rfl⟩ ?_
      refine r_getR (q := 2) k_54_23 ⟨rfl, rfl⟩ ?_
      refine r_call (as := [vR (4), vR (2)]) (r := []) k_54_26 rfl rfl rfl ?_
      refine v_faultOf (r := 0) (l := l) (by decide) hb hx.1 hx.2.1 (zgd_c hg) (by omega) ?_
      refine r_if_eq k_54_29 (fun h29 => ?_) (fun h29 => ?_)
      · skip
        refine r_aload k_54_35 rfl ?_
        refine r_getR (q := 22) k_54_36 ⟨rfl, rfl⟩ ?_
        refine r_aload k_54_39 rfl ?_
        refine r_getR (q := 1) k_54_40 ⟨rfl, rfl⟩ ?_
        refine r_getR (q := 2) k_54_43 ⟨rfl, rfl⟩ ?_
        refine r_aload k_54_46 rfl ?_
        refine r_getR (q := 1) k_54_47 ⟨rfl, rfl⟩ ?_
        refine r_getR (q := 2) k_54_50 ⟨rfl, rfl⟩ ?_
        refine r_getS (v := (l.length : Int)) k_54_53 ⟨rfl, rfl⟩ hx.2.1.1 ?_
        refine r_call (as := [vR (22), vR (2), vI ((l.length : Int))]) (r := []) k_54_56 rfl rfl rfl ?_
        refine s_takel (r := 2) (t := 0) (l := l) (m := (l).length) (by decide) (by decide) hx.2.1 (by omega) rfl (Nat.le_refl _) (fun τ2 f2 z2 => ?_)
        replace f2 := zfr_w (S' := [2]) (A' := [2]) f2 (by decide) (by decide)
        rw [List.take_length] at z2
        have F2 := zfr_2 F0 f2 (by decide) (by decide)
        have Z2_0 := zis_fr hx.2.1 f2 (by decide) (by decide)
        have W2 := zrl_fr hx.1 f2 (by decide)
        refine r_aload k_54_59 rfl ?_
        refine r_getR (q := 1) k_54_60 ⟨rfl, rfl⟩ ?_
        refine r_getR (q := 4) k_54_63 ⟨rfl, rfl⟩ ?_
        refine r_aload k_54_66 rfl ?_
        refine r_getR (q := 22) k_54_67 ⟨rfl, rfl⟩ ?_
        refine r_iload k_54_70 rfl ?_
        refine r_call (as := [vR (4), vR (22), vI (n)]) (r := []) k_54_71 rfl rfl rfl ?_
        obtain ⟨N, hN⟩ : ∃ N : Nat, n = N := ⟨n.toNat, by omega⟩
        have hvl := zval_le C law least N l
        refine v_winse1 hN hg.1 (d := d) (by omega) W2 z2 (zgd_c hg) (by omega) (fun τ3 f3 z3 => ?_)
        have F3 := zfr_2 F2 f3 (by decide) (by decide)
        have Z3_0 := zis_fr Z2_0 f3 (by decide) (by decide)
        have W3 := zrl_fr W2 f3 (by decide)
        refine r_if_eq k_54_74 (fun h74 => ?_) (fun h74 => ?_)
        · skip
          refine r_aload k_54_79 rfl ?_
          refine r_getR (q := 1) k_54_80 ⟨rfl, rfl⟩ ?_
          refine r_getR (q := 4) k_54_83 ⟨rfl, rfl⟩ ?_
          refine r_aload k_54_86 rfl ?_
          refine r_getR (q := 22) k_54_87 ⟨rfl, rfl⟩ ?_
          refine r_iload k_54_90 rfl ?_
          refine r_call (as := [vR (4), vR (22), vI (n)]) (r := []) k_54_91 rfl rfl rfl ?_
          refine v_winse2 hN hg.1 (d := d) (by omega) W3 z3 (zgd_c hg) (by omega) (fun τ4 f4 z4 => ?_)
          have F4 := zfr_2 F3 f4 (by decide) (by decide)
          have Z4_0 := zis_fr Z3_0 f4 (by decide) (by decide)
          have W4 := zrl_fr W3 f4 (by decide)
          refine r_if_eq k_54_94 (fun h94 => ?_) (fun h94 => ?_)
          · skip
            refine r_const k_54_101 ?_
            refine r_iret k_54_102 ?_
            have e1 : ¬ zval C law least N l = 1 := of_decide_eq_false (zb1_e.mp (by omega))
            have e0 : ¬ zval C law least N l = 0 := of_decide_eq_false (zb1_e.mp (by omega))
            exact zKe (q3 N hN (by omega) (by omega) _ F4) (by omega)
          · skip
            refine r_const k_54_97 ?_
            refine r_goto k_54_98 ?_
            refine r_iret k_54_102 ?_
            have e : zval C law least N l = 0 := of_decide_eq_true (zb1_ne.mp (by omega))
            exact zKe (q3 N hN (by omega) (by omega) _ F4) (by rw [e]; rfl)
        · skip
          refine r_const k_54_77 ?_
          refine r_iret k_54_78 ?_
          have e : zval C law least N l = 1 := of_decide_eq_true (zb1_ne.mp (by omega))
          exact zKe (q3 N hN (by omega) (by omega) _ F3) (by rw [e]; rfl)
      · skip
        refine r_const k_54_32 ?_
        refine r_iret k_54_34 ?_
        exact q2 (by omega) (by omega) (by omega) _ zfr_rf
    · skip
      refine r_const k_54_10 ?_
      refine r_iret k_54_11 ?_
      exact q1 (by omega)
theorem y_wins {d : Nat} {σ : zM} {K : zM → Option zV → Prop} {C : Nat} {law least draw : Int} {l : List Int} {p : Nat → Int} (hg : zgd C law least draw l p) (hy : zYn (σ.2 12) C law least draw l p) {n : Int} (q1 : ¬ (0 ≤ n ∧ n ≤ 8) → K σ (some (vI (-1)))) (q2 : 0 ≤ n → n ≤ 8 → zfau law least l ≠ 0 → ∀ τ, zfr [] [18, 19, 22, 23, 24] σ τ → K τ (some (vI (-2)))) (q3 : ∀ N : Nat, n = N → N ≤ 8 → zfau law least l = 0 → ∀ τ, zfr [] [18, 19, 22, 23, 24] σ τ → K τ (some (vI ((zval C law least N l : Nat) : Int)))) : zC (d + 3 + 1) 111 [vR (27), vI (n)] σ K := by
  have hl := hg.2.2.1
  have hb := hg.1
  have hC := hg.1.1
  have hC4 := hg.1.2.1
  refine zC_in rfl ?_
  show zG (d + 3) 111 K 0 zfx (0, [vR (27), vI (n), vU, vU, vU], [], σ)
  refine r_iload k_111_0 rfl ?_
  refine r_cnv (w := vL (n)) k_111_1 rfl ?_
  refine r_lconst k_111_2 ?_
  refine r_lconst k_111_3 ?_
  refine r_call (as := [vL (n), vL (0), vL (8)]) (r := []) k_111_6 rfl rfl rfl ?_
  refine t_in (fun g6 => ?_) (fun g6 => ?_)
  · skip
    refine r_if_ne k_111_9 (fun _ => ?_) (fun hz => absurd hz (by decide))
    refine r_aload k_111_14 rfl ?_
    refine r_call (as := [vR (27)]) (r := []) k_111_15 rfl rfl rfl ?_
    refine v_lay (N := l.length) hy.2.2.2.2.1 hl (fun τ1 f1 r1 => ?_)
    refine r_istore (L' := [vR (27), vI (n), vI ((l.length : Int)), vU, vU]) k_111_18 rfl ?_
    refine r_aload k_111_19 rfl ?_
    refine r_iload k_111_20 rfl ?_
    refine r_call (as := [vR (27), vI ((l.length : Int))]) (r := []) k_111_21 rfl rfl rfl ?_
    have e12 : τ1.2 12 = σ.2 12 := f1.2 12 (by decide)
    have z1 : zrs τ1 l := zYrs hy r1
    refine t_faultsl (l := l) ⟨hg.1.2.2.1, hg.1.2.2.2.1⟩ hg.1.2.2.2.2 (by rw [e12]; exact hy.2.1) (by rw [e12]; exact hy.2.2.1) z1 (zgd_c hg) (by omega) rfl (fun τ2 f2 => ?_)
    have F2 : zfr [] [18, 19, 22, 23, 24] σ τ2 := zfr_tr f1 f2 (by decide) (by decide)
    have z2 : zrs τ2 l := zrs_fr z1 f2 (by decide)
    refine r_if_le k_111_24 (fun h24 => ?_) (fun h24 => ?_)
    · skip
      refine r_const k_111_30 ?_
      refine r_istore (L' := [vR (27), vI (n), vI ((l.length : Int)), vI (0), vU]) k_111_31 rfl ?_
      refine r_aload k_111_32 rfl ?_
      refine r_iload k_111_33 rfl ?_
      refine r_const k_111_34 ?_
      refine r_call (as := [vR (27), vI ((l.length : Int)), vI (0)]) (r := []) k_111_35 rfl rfl rfl ?_
      have e0 : (0 : Int) = ((0 : Nat) : Int) := rfl
      refine t_comes (Bn := l.length) (D := 0) (by omega) (by omega) (fun τ3 f3 e18 e22 e23 e24 => ?_)
      have F3 : zfr [] [18, 19, 22, 23, 24] σ τ3 := zfr_2 F2 f3 (by decide) (by decide)
      have z3 : zrs τ3 l := fun j hj => by rw [e18, zup_n (by omega)]; exact z2 j hj
      refine r_const k_111_38 ?_
      refine r_istore (L' := [vR (27), vI (n), vI ((l.length : Int)), vI (0), vI (2)]) k_111_39 rfl ?_
      obtain ⟨N, hN⟩ : ∃ N : Nat, n = N := ⟨n.toNat, by omega⟩
      have hh := t_win (d := d) (σ := σ) (K := K) (Bn := l.length) (N := N) ⟨hg.1.2.2.1, hg.1.2.2.2.1⟩ hg.1.2.2.2.2 (by omega) hy.1 hy.2.1 hy.2.2.1 (by omega) hl _ N C 0 0 l false false false 2 τ3 rfl (by omega) rfl (by omega) (zgd_c hg) F3 z3 (by rw [e18, Nat.add_zero, zup_1]; rfl) (by rw [e22, zup_1]; rfl) (by rw [e23, zup_1]; rfl) (by rw [e24, zup_1]; rfl) (fun υ fu ru lu => ?_)
      · rw [hN]; exact hh
      rw [zwn_0]
      refine r_iinc (v := -1) (L' := [vR (27), vI ((N : Int)), vI ((l.length : Int)), vI (-1), vI (((zval C law least N l : Nat) : Int))]) k_111_165 rfl (by decide) rfl ?_
      refine r_iload k_111_168 rfl ?_
      refine r_if_lt k_111_169 (fun _ => ?_) (fun hz => absurd hz (by decide))
      refine r_iload k_111_41 rfl ?_
      refine r_if_lt k_111_42 (fun _ => ?_) (fun hz => absurd hz (by decide))
      refine r_iload k_111_226 rfl ?_
      refine r_iret k_111_228 ?_
      exact q3 N hN (by omega) (by omega) _ fu
    · skip
      refine r_const k_111_27 ?_
      refine r_iret k_111_29 ?_
      exact q2 (by omega) (by omega) (by omega) _ F2
  · skip
    refine r_if_ne k_111_9 (fun hz => absurd hz (by decide)) (fun _ => ?_)
    refine r_const k_111_12 ?_
    refine r_iret k_111_13 ?_
    exact q1 (by omega)
theorem p_wins {d : Nat} {σ : zM} (h : zInv σ) {n : Int} : zC (d + 41) 54 [vR 0, vI n] σ (fun σ1 r1 => zC (d + 5) 111 [vR 27, vI n] σ1 (zpq σ1 r1)) := by
  obtain ⟨C, law, least, draw, l, p, hg, hx, hy⟩ := h.1
  refine x_wins (d := d + 26) hg hx (fun q => y_wins (d := d + 1) hg hy (fun _ => ⟨⟨_, rfl, rfl⟩, h⟩) (fun a b _ => absurd ⟨a, b⟩ q) (fun N e1 e2 => absurd ⟨by omega, by omega⟩ q)) (fun a b g τ f => ?_) (fun N e1 e2 g τ f => ?_)
  · have hy2 : zYn (τ.2 12) C law least draw l p := by rw [f.2 12 (by decide)]; exact hy
    exact y_wins (d := d + 1) hg hy2 (fun q => absurd ⟨a, b⟩ q) (fun _ _ _ υ f2 => ⟨⟨_, rfl, rfl⟩, zInv_fr (zInv_fr h f (by decide) (by decide)) f2 (by decide) (by decide)⟩) (fun N _ _ g2 => absurd g2 g)
  · have hy2 : zYn (τ.2 12) C law least draw l p := by rw [f.2 12 (by decide)]; exact hy
    exact y_wins (d := d + 1) hg hy2 (fun q => absurd ⟨by omega, by omega⟩ q) (fun _ _ g2 => absurd g g2) (fun N2 e3 _ _ υ f2 => ⟨⟨_, rfl, by rw [show N2 = N by omega]⟩, zInv_fr (zInv_fr h f (by decide) (by decide)) f2 (by decide) (by decide)⟩)
