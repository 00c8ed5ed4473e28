/-! rule: the two alike -/
theorem x_rule {d : Nat} {σ : zM} {K : zM → Option zV → Prop} {C : Nat} {law least draw : Int} {l : List Int} {p : Nat → Int} (hg : zgd C law least draw l p) (hx : zXn σ C law least draw l p) {what v : Int} (q1 : ¬ ((what = 0 ∧ 0 ≤ v ∧ v ≤ 3) ∨ (what = 1 ∧ 1 ≤ v ∧ v ≤ 9)) → K σ (some (vI (-1)))) (q2 : what = 0 → 0 ≤ v → v ≤ 3 → K (zsetS σ 5 v) (some (vI law))) (q3 : what = 1 → 1 ≤ v → v ≤ 9 → K (zsetS σ 6 v) (some (vI least))) : zC (d + 1) 29 [vR (0), vI (what), vI (v)] σ K := by
  refine zC_in rfl ?_
  show zG (d) 29 K 0 zfx (0, [vR (0), vI (what), vI (v), vU], [], σ)
  refine r_iload k_29_0 rfl ?_
  refine r_if_ne k_29_1 (fun h1 => ?_) (fun h1 => ?_)
  · skip
    refine r_iload k_29_37 rfl ?_
    refine r_const k_29_38 ?_
    refine r_ic_ne k_29_39 (fun h39 => ?_) (fun h39 => ?_)
    · skip
      refine r_const k_29_77 ?_
      refine r_iret k_29_78 ?_
      exact q1 (by omega)
    · skip
      refine r_iload k_29_42 rfl ?_
      refine r_const k_29_43 ?_
      refine r_ic_lt k_29_44 (fun h44 => ?_) (fun h44 => ?_)
      · skip
        refine r_const k_29_77 ?_
        refine r_iret k_29_78 ?_
        exact q1 (by omega)
      · skip
        refine r_iload k_29_47 rfl ?_
        refine r_const k_29_48 ?_
        refine r_ic_gt k_29_50 (fun h50 => ?_) (fun h50 => ?_)
        · skip
          refine r_const k_29_77 ?_
          refine r_iret k_29_78 ?_
          exact q1 (by omega)
        · skip
          refine r_aload k_29_53 rfl ?_
          refine r_getR (q := 1) k_29_54 ⟨rfl, rfl⟩ ?_
          refine r_getR (q := 4) k_29_57 ⟨rfl, rfl⟩ ?_
          refine r_getS (v := least) k_29_60 ⟨rfl, rfl⟩ hx.1.2.2 ?_
          refine r_istore (L' := [vR (0), vI (what), vI (v), vI (least)]) k_29_63 rfl ?_
          refine r_aload k_29_64 rfl ?_
          refine r_getR (q := 1) k_29_65 ⟨rfl, rfl⟩ ?_
          refine r_getR (q := 4) k_29_68 ⟨rfl, rfl⟩ ?_
          refine r_iload k_29_71 rfl ?_
          refine r_putS k_29_72 ⟨rfl, rfl⟩ ?_
          refine r_iload k_29_75 rfl ?_
          refine r_iret k_29_76 ?_
          exact q3 (by omega) (by omega) (by omega)
  · skip
    refine r_iload k_29_4 rfl ?_
    refine r_if_lt k_29_5 (fun h5 => ?_) (fun h5 => ?_)
    · skip
      refine r_iload k_29_37 rfl ?_
      refine r_const k_29_38 ?_
      refine r_ic_ne k_29_39 (fun h39 => ?_) (fun h39 => ?_)
      · skip
        refine r_const k_29_77 ?_
        refine r_iret k_29_78 ?_
        exact q1 (by omega)
      · skip
        refine r_iload k_29_42 rfl ?_
        refine r_const k_29_43 ?_
        refine r_ic_lt k_29_44 (fun h44 => ?_) (fun h44 => ?_)
        · skip
          refine r_const k_29_77 ?_
          refine r_iret k_29_78 ?_
          exact q1 (by omega)
        · skip
          refine r_iload k_29_47 rfl ?_
          refine r_const k_29_48 ?_
          refine r_ic_gt k_29_50 (fun h50 => ?_) (fun h50 => ?_)
          · skip
            refine r_const k_29_77 ?_
            refine r_iret k_29_78 ?_
            exact q1 (by omega)
          · skip
            refine r_aload k_29_53 rfl ?_
            refine r_getR (q := 1) k_29_54 ⟨rfl, rfl⟩ ?_
            refine r_getR (q := 4) k_29_57 ⟨rfl, rfl⟩ ?_
            refine r_getS (v := least) k_29_60 ⟨rfl, rfl⟩ hx.1.2.2 ?_
            refine r_istore (L' := [vR (0), vI (what), vI (v), vI (least)]) k_29_63 rfl ?_
            refine r_aload k_29_64 rfl ?_
            refine r_getR (q := 1) k_29_65 ⟨rfl, rfl⟩ ?_
            refine r_getR (q := 4) k_29_68 ⟨rfl, rfl⟩ ?_
            refine r_iload k_29_71 rfl ?_
            refine r_putS k_29_72 ⟨rfl, rfl⟩ ?_
            refine r_iload k_29_75 rfl ?_
            refine r_iret k_29_76 ?_
            exact q3 (by omega) (by omega) (by omega)
    · skip
      refine r_iload k_29_8 rfl ?_
      refine r_const k_29_9 ?_
      refine r_ic_gt k_29_10 (fun h10 => ?_) (fun h10 => ?_)
      · skip
        refine r_iload k_29_37 rfl ?_
        refine r_const k_29_38 ?_
        refine r_ic_ne k_29_39 (fun h39 => ?_) (fun h39 => ?_)
        · skip
          refine r_const k_29_77 ?_
          refine r_iret k_29_78 ?_
          exact q1 (by omega)
        · skip
          refine r_iload k_29_42 rfl ?_
          refine r_const k_29_43 ?_
          refine r_ic_lt k_29_44 (fun h44 => ?_) (fun h44 => ?_)
          · skip
            refine r_const k_29_77 ?_
            refine r_iret k_29_78 ?_
            exact q1 (by omega)
          · skip
            refine r_iload k_29_47 rfl ?_
            refine r_const k_29_48 ?_
            refine r_ic_gt k_29_50 (fun h50 => ?_) (fun h50 => ?_)
            · skip
              refine r_const k_29_77 ?_
              refine r_iret k_29_78 ?_
              exact q1 (by omega)
            · skip
              refine r_aload k_29_53 rfl ?_
              refine r_getR (q := 1) k_29_54 ⟨rfl, rfl⟩ ?_
              refine r_getR (q := 4) k_29_57 ⟨rfl, rfl⟩ ?_
              refine r_getS (v := least) k_29_60 ⟨rfl, rfl⟩ hx.1.2.2 ?_
              refine r_istore (L' := [vR (0), vI (what), vI (v), vI (least)]) k_29_63 rfl ?_
              refine r_aload k_29_64 rfl ?_
              refine r_getR (q := 1) k_29_65 ⟨rfl, rfl⟩ ?_
              refine r_getR (q := 4) k_29_68 ⟨rfl, rfl⟩ ?_
              refine r_iload k_29_71 rfl ?_
              refine r_putS k_29_72 ⟨rfl, rfl⟩ ?_
              refine r_iload k_29_75 rfl ?_
              refine r_iret k_29_76 ?_
              exact q3 (by omega) (by omega) (by omega)
      · skip
        refine r_aload k_29_13 rfl ?_
        refine r_getR (q := 1) k_29_14 ⟨rfl, rfl⟩ ?_
        refine r_getR (q := 4) k_29_17 ⟨rfl, rfl⟩ ?_
        refine r_getS (v := law) k_29_20 ⟨rfl, rfl⟩ hx.1.2.1 ?_
        refine r_istore (L' := [vR (0), vI (what), vI (v), vI (law)]) k_29_23 rfl ?_
        refine r_aload k_29_24 rfl ?_
        refine r_getR (q := 1) k_29_25 ⟨rfl, rfl⟩ ?_
        refine r_getR (q := 4) k_29_28 ⟨rfl, rfl⟩ ?_
        refine r_iload k_29_31 rfl ?_
        refine r_putS k_29_32 ⟨rfl, rfl⟩ ?_
        refine r_iload k_29_35 rfl ?_
        refine r_iret k_29_36 ?_
        exact q2 (by omega) (by omega) (by omega)
theorem y_rule {d : Nat} {σ : zM} {K : zM → Option zV → Prop} {C : Nat} {law least draw : Int} {l : List Int} {p : Nat → Int} (hg : zgd C law least draw l p) (hy : zYn (σ.2 12) C law least draw l p) {what v : Int} (q1 : ¬ ((what = 0 ∧ 0 ≤ v ∧ v ≤ 3) ∨ (what = 1 ∧ 1 ≤ v ∧ v ≤ 9)) → K σ (some (vI (-1)))) (q2 : what = 0 → 0 ≤ v → v ≤ 3 → K (zsetA σ 12 (zup (σ.2 12) 1 v)) (some (vI law))) (q3 : what = 1 → 1 ≤ v → v ≤ 9 → K (zsetA σ 12 (zup (σ.2 12) 2 v)) (some (vI least))) : zC (d + 1 + 1) 89 [vR (27), vI (what), vI (v)] σ K := by
  refine zC_in rfl ?_
  show zG (d + 1) 89 K 0 zfx (0, [vR (27), vI (what), vI (v)], [], σ)
  refine r_iload k_89_0 rfl ?_
  refine r_if_ne k_89_1 (fun h1 => ?_) (fun h1 => ?_)
  · skip
    refine r_iload k_89_16 rfl ?_
    refine r_const k_89_17 ?_
    refine r_ic_ne k_89_18 (fun h18 => ?_) (fun h18 => ?_)
    · skip
      refine r_const k_89_42 ?_
      refine r_iret k_89_43 ?_
      exact q1 (by omega)
    · skip
      refine r_iload k_89_21 rfl ?_
      refine r_cnv (w := vL (v)) k_89_22 rfl ?_
      refine r_lconst k_89_23 ?_
      refine r_lconst k_89_24 ?_
      refine r_call (as := [vL (v), vL (1), vL (9)]) (r := []) k_89_27 rfl rfl rfl ?_
      refine t_in (fun g27 => ?_) (fun g27 => ?_)
      · skip
        refine r_if_eq k_89_30 (fun hz => absurd hz (by decide)) (fun _ => ?_)
        refine r_aload k_89_33 rfl ?_
        refine r_const k_89_34 ?_
        refine r_iload k_89_35 rfl ?_
        refine r_bin (v := 1 + what) k_89_36 (zb_add ⟨by omega, by omega⟩) ?_
        refine r_iload k_89_37 rfl ?_
        refine r_call (as := [vR (27), vI (1 + what), vI (v)]) (r := []) k_89_38 rfl rfl rfl ?_
        refine y_changed (k := 2) (by omega) (by decide) hy.2.2.1 ?_
        refine r_iret k_89_41 ?_
        exact q3 (by omega) (by omega) (by omega)
      · skip
        refine r_if_eq k_89_30 (fun _ => ?_) (fun hz => absurd hz (by decide))
        refine r_const k_89_42 ?_
        refine r_iret k_89_43 ?_
        exact q1 (by omega)
  · skip
    refine r_iload k_89_4 rfl ?_
    refine r_cnv (w := vL (v)) k_89_5 rfl ?_
    refine r_lconst k_89_6 ?_
    refine r_lconst k_89_7 ?_
    refine r_call (as := [vL (v), vL (0), vL (3)]) (r := []) k_89_10 rfl rfl rfl ?_
    refine t_in (fun g10 => ?_) (fun g10 => ?_)
    · skip
      refine r_if_ne k_89_13 (fun _ => ?_) (fun hz => absurd hz (by decide))
      refine r_aload k_89_33 rfl ?_
      refine r_const k_89_34 ?_
      refine r_iload k_89_35 rfl ?_
      refine r_bin (v := 1 + what) k_89_36 (zb_add ⟨by omega, by omega⟩) ?_
      refine r_iload k_89_37 rfl ?_
      refine r_call (as := [vR (27), vI (1 + what), vI (v)]) (r := []) k_89_38 rfl rfl rfl ?_
      refine y_changed (k := 1) (by omega) (by decide) hy.2.1 ?_
      refine r_iret k_89_41 ?_
      exact q2 (by omega) (by omega) (by omega)
    · skip
      refine r_if_ne k_89_13 (fun hz => absurd hz (by decide)) (fun _ => ?_)
      refine r_iload k_89_16 rfl ?_
      refine r_const k_89_17 ?_
      refine r_ic_ne k_89_18 (fun h18 => ?_) (fun h18 => ?_)
      · skip
        refine r_const k_89_42 ?_
        refine r_iret k_89_43 ?_
        exact q1 (by omega)
      · skip
        refine r_iload k_89_21 rfl ?_
        refine r_cnv (w := vL (v)) k_89_22 rfl ?_
        refine r_lconst k_89_23 ?_
        refine r_lconst k_89_24 ?_
        refine r_call (as := [vL (v), vL (1), vL (9)]) (r := []) k_89_27 rfl rfl rfl ?_
        refine t_in (fun g27 => ?_) (fun g27 => ?_)
        · skip
          refine r_if_eq k_89_30 (fun hz => absurd hz (by decide)) (fun _ => ?_)
          refine r_aload k_89_33 rfl ?_
          refine r_const k_89_34 ?_
          refine r_iload k_89_35 rfl ?_
          refine r_bin (v := 1 + what) k_89_36 (zb_add ⟨by omega, by omega⟩) ?_
          refine r_iload k_89_37 rfl ?_
          refine r_call (as := [vR (27), vI (1 + what), vI (v)]) (r := []) k_89_38 rfl rfl rfl ?_
          refine y_changed (k := 2) (by omega) (by decide) hy.2.2.1 ?_
          refine r_iret k_89_41 ?_
          exact q3 (by omega) (by omega) (by omega)
        · skip
          refine r_if_eq k_89_30 (fun _ => ?_) (fun hz => absurd hz (by decide))
          refine r_const k_89_42 ?_
          refine r_iret k_89_43 ?_
          exact q1 (by omega)
theorem p_rule {d : Nat} {σ : zM} (h : zInv σ) {what v : Int} : zC (d + 41) 29 [vR 0, vI what, vI v] σ (fun σ1 r1 => zC (d + 5) 89 [vR 27, vI what, vI v] σ1 (zpq σ1 r1)) := by
  obtain ⟨C, law, least, draw, l, p, hg, hx, hy⟩ := h.1
  refine x_rule (d := d + 40) hg hx (fun q => y_rule (d := d + 3) hg hy (fun _ => ⟨⟨_, rfl, rfl⟩, h⟩) (fun a b c => absurd (Or.inl ⟨a, b, c⟩) q) (fun a b c => absurd (Or.inr ⟨a, b, c⟩) q)) (fun a b c => ?_) (fun a b c => ?_)
  · refine y_rule (d := d + 3) (σ := zsetS σ 5 v) hg hy (fun q => absurd (Or.inl ⟨a, b, c⟩) q) (fun _ _ _ => ⟨⟨_, rfl, rfl⟩, ?_⟩) (fun e _ _ => absurd e (by omega))
    have f2 : zfr [5] [12] σ (zsetA (zsetS σ 5 v) 12 (zup (σ.2 12) 1 v)) := zfr_A (zfr_S zfr_rf (by decide)) (by decide)
    exact ⟨⟨C, v, least, draw, l, p, ⟨⟨hg.1.1, hg.1.2.1, b, c, hg.1.2.2.2.2⟩, hg.2⟩, ⟨⟨(f2.1 4 (by decide)).trans hx.1.1, rfl, (f2.1 6 (by decide)).trans hx.1.2.2⟩, zis_fr hx.2.1 f2 (by decide) (by decide), zpr_fr hx.2.2.1 f2 (by decide), (f2.1 10 (by decide)).trans hx.2.2.2⟩, zYn_1 hy⟩, zOth_fr h.2 f2 (by decide) (by decide)⟩
  · refine y_rule (d := d + 3) (σ := zsetS σ 6 v) hg hy (fun q => absurd (Or.inr ⟨a, b, c⟩) q) (fun e _ _ => absurd e (by omega)) (fun _ _ _ => ⟨⟨_, rfl, rfl⟩, ?_⟩)
    have f2 : zfr [6] [12] σ (zsetA (zsetS σ 6 v) 12 (zup (σ.2 12) 2 v)) := zfr_A (zfr_S zfr_rf (by decide)) (by decide)
    exact ⟨⟨C, law, v, draw, l, p, ⟨⟨hg.1.1, hg.1.2.1, hg.1.2.2.1, hg.1.2.2.2.1, b, c⟩, hg.2⟩, ⟨⟨(f2.1 4 (by decide)).trans hx.1.1, (f2.1 5 (by decide)).trans hx.1.2.1, rfl⟩, zis_fr hx.2.1 f2 (by decide) (by decide), zpr_fr hx.2.2.1 f2 (by decide), (f2.1 10 (by decide)).trans hx.2.2.2⟩, zYn_2 hy⟩, zOth_fr h.2 f2 (by decide) (by decide)⟩
