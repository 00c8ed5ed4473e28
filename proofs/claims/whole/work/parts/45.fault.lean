/-! fault: the two alike -/
theorem zfau_le {law least : Int} {l : List Int} : zfau law least l ≤ l.length := by
  by_cases h : zfau law least l = 0
  · omega
  · have := zfirst_spec (C := fun e => decide (e ≤ l.length)) (P := fun e => decide (zends law least (zlf l) e ≠ 0)) (l.length + 1) 1 (zfau law least l) rfl h
    exact of_decide_eq_true this.2.2.1
def zfva (law least what : Int) (l : List Int) : Int := if zfau law least l = 0 then -4 else if what = 0 then (zfau law least l : Nat) else (zends law least (zlf l) (zfau law least l) : Nat)
theorem x_fault {d : Nat} {σ : zM} {K : zM → Option zV → Prop} {C : Nat} {law least draw : Int} {l : List Int} {p : Nat → Int} (hg : zgd C law least draw l p) (hx : zXn σ C law least draw l p) {what : Int} (q1 : ¬ (what = 0 ∨ what = 1) → K σ (some (vI (-1)))) (q2 : what = 0 ∨ what = 1 → ∀ τ, zfr [] [] σ τ → K τ (some (vI (zfva law least what l)))) : zC (d + 5 + 1) 38 [vR (0), vI (what)] σ K := by
  have hl := hg.2.2.1
  have hb := hg.1
  have hfl := zfau_le (law := law) (least := least) (l := l)
  refine zC_in rfl ?_
  show zG (d + 5) 38 K 0 zfx (0, [vR (0), vI (what), vU], [], σ)
  refine r_iload k_38_0 rfl ?_
  refine r_if_eq k_38_1 (fun h1 => ?_) (fun h1 => ?_)
  · skip
    refine r_aload k_38_11 rfl ?_
    refine r_getR (q := 1) k_38_12 ⟨rfl, rfl⟩ ?_
    refine r_getR (q := 4) k_38_15 ⟨rfl, rfl⟩ ?_
    refine r_aload k_38_18 rfl ?_
    refine r_getR (q := 1) k_38_19 ⟨rfl, rfl⟩ ?_
    refine r_getR (q := 2) k_38_22 ⟨rfl, rfl⟩ ?_
    refine r_call (as := [vR (4), vR (2)]) (r := []) k_38_25 rfl rfl rfl ?_
    refine v_faultOf (r := 0) (l := l) (by decide) hb hx.1 hx.2.1 (zgd_c hg) (by omega) ?_
    refine r_istore (L' := [vR (0), vI (what), vI ((zfau law least l : Nat))]) k_38_28 rfl ?_
    refine r_iload k_38_29 rfl ?_
    refine r_if_ne k_38_30 (fun h30 => ?_) (fun h30 => ?_)
    · skip
      refine r_iload k_38_36 rfl ?_
      refine r_if_ne k_38_37 (fun h37 => ?_) (fun h37 => ?_)
      · skip
        refine r_aload k_38_44 rfl ?_
        refine r_getR (q := 1) k_38_45 ⟨rfl, rfl⟩ ?_
        refine r_getR (q := 4) k_38_48 ⟨rfl, rfl⟩ ?_
        refine r_aload k_38_51 rfl ?_
        refine r_getR (q := 1) k_38_52 ⟨rfl, rfl⟩ ?_
        refine r_getR (q := 2) k_38_55 ⟨rfl, rfl⟩ ?_
        refine r_const k_38_58 ?_
        refine r_iload k_38_59 rfl ?_
        refine r_call (as := [vR (4), vR (2), vI (0), vI ((zfau law least l : Nat))]) (r := []) k_38_60 rfl rfl rfl ?_
        refine v_endw (d := d + 2) (r := 0) (l := l) (fr := 0) (to := zfau law least l) (by decide) hg.1 hx.1 hx.2.1 (zgd_c hg) (Nat.zero_le _) zfau_le (by omega) ?_
        rw [zsh_zero, Nat.sub_zero]
        refine r_iret k_38_63 ?_
        exact zKe (q2 (by omega) _ zfr_rf) (by unfold zfva; rw [if_neg (by omega), if_neg (by omega)])
      · skip
        refine r_iload k_38_40 rfl ?_
        refine r_goto k_38_41 ?_
        refine r_iret k_38_63 ?_
        exact zKe (q2 (by omega) _ zfr_rf) (by unfold zfva; rw [if_neg (by omega), if_pos (by omega)])
    · skip
      refine r_const k_38_33 ?_
      refine r_iret k_38_35 ?_
      exact zKe (q2 (by omega) _ zfr_rf) (if_pos (by omega))
  · skip
    refine r_iload k_38_4 rfl ?_
    refine r_const k_38_5 ?_
    refine r_ic_eq k_38_6 (fun h6 => ?_) (fun h6 => ?_)
    · skip
      refine r_aload k_38_11 rfl ?_
      refine r_getR (q := 1) k_38_12 ⟨rfl, rfl⟩ ?_
      refine r_getR (q := 4) k_38_15 ⟨rfl, rfl⟩ ?_
      refine r_aload k_38_18 rfl ?_
      refine r_getR (q := 1) k_38_19 ⟨rfl, rfl⟩ ?_
      refine r_getR (q := 2) k_38_22 ⟨rfl, rfl⟩ ?_
      refine r_call (as := [vR (4), vR (2)]) (r := []) k_38_25 rfl rfl rfl ?_
      refine v_faultOf (r := 0) (l := l) (by decide) hb hx.1 hx.2.1 (zgd_c hg) (by omega) ?_
      refine r_istore (L' := [vR (0), vI (what), vI ((zfau law least l : Nat))]) k_38_28 rfl ?_
      refine r_iload k_38_29 rfl ?_
      refine r_if_ne k_38_30 (fun h30 => ?_) (fun h30 => ?_)
      · skip
        refine r_iload k_38_36 rfl ?_
        refine r_if_ne k_38_37 (fun h37 => ?_) (fun h37 => ?_)
        · skip
          refine r_aload k_38_44 rfl ?_
          refine r_getR (q := 1) k_38_45 ⟨rfl, rfl⟩ ?_
          refine r_getR (q := 4) k_38_48 ⟨rfl, rfl⟩ ?_
          refine r_aload k_38_51 rfl ?_
          refine r_getR (q := 1) k_38_52 ⟨rfl, rfl⟩ ?_
          refine r_getR (q := 2) k_38_55 ⟨rfl, rfl⟩ ?_
          refine r_const k_38_58 ?_
          refine r_iload k_38_59 rfl ?_
          refine r_call (as := [vR (4), vR (2), vI (0), vI ((zfau law least l : Nat))]) (r := []) k_38_60 rfl rfl rfl ?_
          refine v_endw (d := d + 2) (r := 0) (l := l) (fr := 0) (to := zfau law least l) (by decide) hg.1 hx.1 hx.2.1 (zgd_c hg) (Nat.zero_le _) zfau_le (by omega) ?_
          rw [zsh_zero, Nat.sub_zero]
          refine r_iret k_38_63 ?_
          exact zKe (q2 (by omega) _ zfr_rf) (by unfold zfva; rw [if_neg (by omega), if_neg (by omega)])
        · skip
          refine r_iload k_38_40 rfl ?_
          refine r_goto k_38_41 ?_
          refine r_iret k_38_63 ?_
          exact zKe (q2 (by omega) _ zfr_rf) (by unfold zfva; rw [if_neg (by omega), if_pos (by omega)])
      · skip
        refine r_const k_38_33 ?_
        refine r_iret k_38_35 ?_
        exact zKe (q2 (by omega) _ zfr_rf) (if_pos (by omega))
    · skip
      refine r_const k_38_9 ?_
      refine r_iret k_38_10 ?_
      exact q1 (by omega)
theorem y_fault {d : Nat} {σ : zM} {K : zM → Option zV → Prop} {C : Nat} {law least draw : Int} {l : List Int} {p : Nat → Int} (hg : zgd C law least draw l p) (hy : zYn (σ.2 12) C law least draw l p) {what : Int} (q1 : ¬ (what = 0 ∨ what = 1) → K σ (some (vI (-1)))) (q2 : what = 0 ∨ what = 1 → ∀ τ, zfr [] [18, 19] σ τ → K τ (some (vI (zfva law least what l)))) : zC (d + 4 + 1) 97 [vR (27), vI (what)] σ K := by
  have hl := hg.2.2.1
  have hC := hg.1.2.1
  have hfl := zfau_le (law := law) (least := least) (l := l)
  refine zC_in rfl ?_
  show zG (d + 4) 97 K 0 zfx (0, [vR (27), vI (what), vU], [], σ)
  refine r_iload k_97_0 rfl ?_
  refine r_cnv (w := vL (what)) k_97_1 rfl ?_
  refine r_lconst k_97_2 ?_
  refine r_lconst k_97_3 ?_
  refine r_call (as := [vL (what), vL (0), vL (1)]) (r := []) k_97_4 rfl rfl rfl ?_
  refine t_in (fun g4 => ?_) (fun g4 => ?_)
  · skip
    refine r_if_ne k_97_7 (fun _ => ?_) (fun hz => absurd hz (by decide))
    refine r_aload k_97_12 rfl ?_
    refine r_aload k_97_13 rfl ?_
    refine r_call (as := [vR (27)]) (r := [vR (27)]) k_97_14 rfl rfl rfl ?_
    refine v_lay (N := l.length) hy.2.2.2.2.1 hl (fun τ1 f1 r1 => ?_)
    refine r_call (as := [vR (27), vI ((l.length : Int))]) (r := []) k_97_17 rfl rfl rfl ?_
    have e12 : τ1.2 12 = σ.2 12 := f1.2 12 (by decide)
    have z1 : zrs τ1 l := zYrs hy r1
    refine t_faultsl (l := l) ⟨hg.1.2.2.1, hg.1.2.2.2.1⟩ hg.1.2.2.2.2 (by rw [e12]; exact hy.2.1) (by rw [e12]; exact hy.2.2.1) z1 (zgd_c hg) (by omega) rfl (fun τ2 f2 => ?_)
    have F2 : zfr [] [18, 19] σ τ2 := zfr_tr f1 f2 (by decide) (by decide)
    have z2 : zrs τ2 l := zrs_fr z1 f2 (by decide)
    refine r_istore (L' := [vR (27), vI (what), vI ((zfau law least l : Nat))]) k_97_20 rfl ?_
    refine r_iload k_97_21 rfl ?_
    refine r_if_ne k_97_22 (fun h22 => ?_) (fun h22 => ?_)
    · skip
      refine r_iload k_97_30 rfl ?_
      refine r_if_ne k_97_31 (fun h31 => ?_) (fun h31 => ?_)
      · skip
        refine r_aload k_97_38 rfl ?_
        refine r_iload k_97_39 rfl ?_
        refine r_call (as := [vR (27), vI ((zfau law least l : Nat))]) (r := []) k_97_40 rfl rfl rfl ?_
        have e13 : τ2.2 12 = σ.2 12 := F2.2 12 (by decide)
        refine t_ends (en := zfau law least l) ⟨hg.1.2.2.1, hg.1.2.2.2.1⟩ hg.1.2.2.2.2 (by rw [e13]; exact hy.2.1) (by rw [e13]; exact hy.2.2.1) (by omega) (fun k hk => zrs_c z2 (zgd_c hg) k (by omega)) (fun τ3 f3 => ?_)
        have F3 : zfr [] [18, 19] σ τ3 := zfr_tr F2 f3 (by decide) (by decide)
        rw [zends_congr (f := τ2.2 18) (g := zlf l) (fun k hk => z2 k (by omega))]
        refine r_iret k_97_43 ?_
        exact zKe (q2 (by omega) _ F3) (by unfold zfva; rw [if_neg (by omega), if_neg (by omega)])
      · skip
        refine r_iload k_97_34 rfl ?_
        refine r_goto k_97_35 ?_
        refine r_iret k_97_43 ?_
        exact zKe (q2 (by omega) _ F2) (by unfold zfva; rw [if_neg (by omega), if_pos (by omega)])
    · skip
      refine r_const k_97_25 ?_
      refine r_goto k_97_27 ?_
      refine r_iret k_97_43 ?_
      exact zKe (q2 (by omega) _ F2) (if_pos (by omega))
  · skip
    refine r_if_ne k_97_7 (fun hz => absurd hz (by decide)) (fun _ => ?_)
    refine r_const k_97_10 ?_
    refine r_iret k_97_11 ?_
    exact q1 (by omega)
theorem p_fault {d : Nat} {σ : zM} (h : zInv σ) {what : Int} : zC (d + 41) 38 [vR 0, vI what] σ (fun σ1 r1 => zC (d + 5) 97 [vR 27, vI what] σ1 (zpq σ1 r1)) := by
  obtain ⟨C, law, least, draw, l, p, hg, hx, hy⟩ := h.1
  refine x_fault (d := d + 35) hg hx (fun q => y_fault hg hy (fun _ => ⟨⟨_, rfl, rfl⟩, h⟩) (fun q2 => absurd q2 q)) (fun q τ f => ?_)
  have hy2 : zYn (τ.2 12) C law least draw l p := by rw [f.2 12 (by decide)]; exact hy
  exact y_fault hg hy2 (fun q2 => absurd q q2) (fun _ υ f2 => ⟨⟨_, rfl, rfl⟩, zInv_fr (zInv_fr h f (by decide) (by decide)) f2 (by decide) (by decide)⟩)
