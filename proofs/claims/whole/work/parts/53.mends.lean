/-! mends: the two alike -/
def zme (C : Nat) (law least : Int) (l : List Int) (k : Nat) : Int := zset (fun c => decide (zfau law least (l.set k (c : Int)) = 0)) C
theorem zrs_set {σ : zM} {l : List Int} {k m : Nat} {c : Int} (h : zrs σ l) (hm : k = m) (hk : k < l.length) : zrs (zsetA σ 18 (zup (σ.2 18) m c)) (l.set k c) := fun j hj => by
  subst hm
  rw [List.length_set] at hj
  rw [zA_2]
  by_cases hjk : j = k
  · subst hjk; rw [zup_1, zlf_set_e hk]
  · rw [zup_n hjk, zlf_set_n hjk]; exact h j hj
theorem zset_self {l : List Int} {k : Nat} (hk : k < l.length) : l.set k (zlf l k) = l := by
  refine zlf_ext (by rw [List.length_set]) fun j hj => ?_
  by_cases hjk : j = k
  · subst hjk; rw [zlf_set_e hk]
  · rw [zlf_set_n hjk]
theorem x_mends {d : Nat} {σ : zM} {K : zM → Option zV → Prop} {C : Nat} {law least draw : Int} {l : List Int} {p : Nat → Int} (hg : zgd C law least draw l p) (hx : zXn σ C law least draw l p) {i : Int} (q1 : ¬ (0 ≤ i ∧ i < l.length) → K σ (some (vI (-1)))) (q2 : ∀ k : Nat, i = k → k < l.length → ∀ τ, zfr [2] [2] σ τ → K τ (some (vI (zme C law least l k)))) : zC (d + 4 + 1) 58 [vR (0), vI (i)] σ K := by
  have hl := hg.2.2.1
  have hb := hg.1
  have hC := hg.1.1
  have hC4 := hg.1.2.1
  have F0 : zfr [2] [2] σ σ := zfr_rf
  refine zC_in rfl ?_
  have lp : ∀ (n : Nat) (k c : Nat) (τ : zM) (x : Int), C - c = n → i = k → k < l.length → c ≤ C → zrl τ C law least → zis τ 2 (l.set k x) → zfr [2] [2] σ τ → zG (d + 4) 58 K 0 zfx (44, [vR (0), vI (i), vI ((zset (fun c => decide (zfau law least (l.set k (c : Int)) = 0)) c)), vI ((c : Int))], [], τ) := by
    intro n
    induction n using Nat.strongRecOn with
    | _ n ih =>
    intro k c τ x hn hik hkl g1 W1 hz1 F1
    have hls : ∀ y : Int, (l.set k y).length = l.length := fun y => List.length_set
    refine r_iload k_58_44 rfl ?_
    refine r_aload k_58_45 rfl ?_
    refine r_getR (q := 1) k_58_46 ⟨rfl, rfl⟩ ?_
    refine r_getR (q := 4) k_58_49 ⟨rfl, rfl⟩ ?_
    refine r_getS (v := C) k_58_52 ⟨rfl, rfl⟩ W1.1 ?_
    refine r_ic_ge k_58_55 (fun h55 => ?_) (fun h55 => ?_)
    · skip
      refine r_iload k_58_96 rfl ?_
      refine r_iret k_58_97 ?_
      have e : c = C := by omega
      subst e
      exact q2 k hik hkl _ F1
    · skip
      refine r_aload k_58_58 rfl ?_
      refine r_getR (q := 22) k_58_59 ⟨rfl, rfl⟩ ?_
      refine r_iload k_58_62 rfl ?_
      refine r_iload k_58_63 rfl ?_
      refine r_call (as := [vR (22), vI (i), vI ((c : Int))]) (r := []) k_58_64 rfl rfl rfl ?_
      refine v_put (r := 2) (l := l.set k x) (k := k) (by decide) hz1 (by rw [List.length_set]; omega) hik (by rw [List.length_set]; omega) (fun τ1 f1 z1 => ?_)
      rw [List.set_set] at z1
      replace f1 := zfr_w (S' := [2]) (A' := [2]) f1 (by decide) (by decide)
      have F1 := zfr_2 F1 f1 (by decide) (by decide)
      have W1 := zrl_fr W1 f1 (by decide)
      refine r_aload k_58_67 rfl ?_
      refine r_getR (q := 1) k_58_68 ⟨rfl, rfl⟩ ?_
      refine r_getR (q := 4) k_58_71 ⟨rfl, rfl⟩ ?_
      refine r_aload k_58_74 rfl ?_
      refine r_getR (q := 22) k_58_75 ⟨rfl, rfl⟩ ?_
      refine r_call (as := [vR (4), vR (22)]) (r := []) k_58_78 rfl rfl rfl ?_
      refine v_faultOf (r := 2) (l := (l.set k (c : Int))) (by decide) hb W1 z1 (zcol_set (zgd_c hg) (by omega) (by omega) k) (by rw [hls]; omega) ?_
      refine r_if_ne k_58_81 (fun h81 => ?_) (fun h81 => ?_)
      · skip
        refine r_iinc (v := (c : Int) + 1) (L' := [vR (0), vI (i), vI ((zset (fun c => decide (zfau law least (l.set k (c : Int)) = 0)) c)), vI ((c : Int) + 1)]) k_58_90 rfl (zb_add ⟨by omega, by omega⟩) rfl ?_
        refine r_goto k_58_93 ?_
        have e : (zset (fun c => decide (zfau law least (l.set k (c : Int)) = 0)) c) = (zset (fun c => decide (zfau law least (l.set k (c : Int)) = 0)) (c + 1)) := by rw [zset, if_neg (by rw [decide_eq_false (by omega)]; decide), Int.add_zero]
        rw [e]
        exact ih _ (by omega) k (c + 1) _ (c : Int) rfl hik hkl (by omega) W1 z1 F1
      · skip
        refine r_iload k_58_84 rfl ?_
        refine r_const k_58_85 ?_
        refine r_iload k_58_86 rfl ?_
        refine r_bin (v := (zbin 5 1 (c : Int))) k_58_87 rfl ?_
        refine r_bin (v := (zbin 4 (zset (fun c => decide (zfau law least (l.set k (c : Int)) = 0)) c) (zbin 5 1 (c : Int)))) k_58_88 rfl ?_
        refine r_istore (L' := [vR (0), vI (i), vI ((zbin 4 (zset (fun c => decide (zfau law least (l.set k (c : Int)) = 0)) c) (zbin 5 1 (c : Int)))), vI ((c : Int))]) k_58_89 rfl ?_
        refine r_iinc (v := (c : Int) + 1) (L' := [vR (0), vI (i), vI ((zbin 4 (zset (fun c => decide (zfau law least (l.set k (c : Int)) = 0)) c) (zbin 5 1 (c : Int)))), vI ((c : Int) + 1)]) k_58_90 rfl (zb_add ⟨by omega, by omega⟩) rfl ?_
        refine r_goto k_58_93 ?_
        have e : (zbin 4 (zset (fun c => decide (zfau law least (l.set k (c : Int)) = 0)) c) (zbin 5 1 (c : Int))) = (zset (fun c => decide (zfau law least (l.set k (c : Int)) = 0)) (c + 1)) := by rw [zset_or (by omega), zset, if_pos (decide_eq_true (by omega))]
        rw [e]
        exact ih _ (by omega) k (c + 1) _ (c : Int) rfl hik hkl (by omega) W1 z1 F1
  show zG (d + 4) 58 K 0 zfx (0, [vR (0), vI (i), vU, vU], [], σ)
  refine r_aload k_58_0 rfl ?_
  refine r_getR (q := 1) k_58_1 ⟨rfl, rfl⟩ ?_
  refine r_getR (q := 2) k_58_4 ⟨rfl, rfl⟩ ?_
  refine r_iload k_58_7 rfl ?_
  refine r_call (as := [vR (2), vI (i)]) (r := []) k_58_8 rfl rfl rfl ?_
  refine s_has (r := 0) (by decide) (fun g8 e8 => ?_) (fun g8 => ?_)
  · skip
    rw [hx.2.1.1] at e8
    obtain ⟨k, hik⟩ : ∃ k : Nat, i = k := ⟨i.toNat, by omega⟩
    refine r_if_ne k_58_11 (fun _ => ?_) (fun hz => absurd hz (by decide))
    refine r_aload k_58_16 rfl ?_
    refine r_getR (q := 22) k_58_17 ⟨rfl, rfl⟩ ?_
    refine r_aload k_58_20 rfl ?_
    refine r_getR (q := 1) k_58_21 ⟨rfl, rfl⟩ ?_
    refine r_getR (q := 2) k_58_24 ⟨rfl, rfl⟩ ?_
    refine r_aload k_58_27 rfl ?_
    refine r_getR (q := 1) k_58_28 ⟨rfl, rfl⟩ ?_
    refine r_getR (q := 2) k_58_31 ⟨rfl, rfl⟩ ?_
    refine r_getS (v := (l.length : Int)) k_58_34 ⟨rfl, rfl⟩ hx.2.1.1 ?_
    refine r_call (as := [vR (22), vR (2), vI ((l.length : Int))]) (r := []) k_58_37 rfl rfl rfl ?_
    refine s_takel (r := 2) (t := 0) (l := l) (m := (l).length) (by decide) (by decide) hx.2.1 (by omega) rfl (Nat.le_refl _) (fun τ2 f2 z2 => ?_)
    replace f2 := zfr_w (S' := [2]) (A' := [2]) f2 (by decide) (by decide)
    rw [List.take_length] at z2
    have F2 := zfr_2 F0 f2 (by decide) (by decide)
    have Z2_0 := zis_fr hx.2.1 f2 (by decide) (by decide)
    have W2 := zrl_fr hx.1 f2 (by decide)
    refine r_const k_58_40 ?_
    refine r_istore (L' := [vR (0), vI (i), vI (0), vU]) k_58_41 rfl ?_
    refine r_const k_58_42 ?_
    refine r_istore (L' := [vR (0), vI (i), vI (0), vI (0)]) k_58_43 rfl ?_
    exact lp _ k 0 _ (zlf l k) rfl hik (by omega) (by omega) W2 (by rw [zset_self (by omega)]; exact z2) F2
  · skip
    rw [hx.2.1.1] at g8
    refine r_if_ne k_58_11 (fun hz => absurd hz (by decide)) (fun _ => ?_)
    refine r_const k_58_14 ?_
    refine r_iret k_58_15 ?_
    exact q1 (by omega)
theorem y_mends {d : Nat} {σ : zM} {K : zM → Option zV → Prop} {C : Nat} {law least draw : Int} {l : List Int} {p : Nat → Int} (hg : zgd C law least draw l p) (hy : zYn (σ.2 12) C law least draw l p) {i : Int} (q1 : ¬ (0 ≤ i ∧ i < l.length) → K σ (some (vI (-1)))) (q2 : ∀ k : Nat, i = k → k < l.length → ∀ τ, zfr [] [18, 19] σ τ → K τ (some (vI (zme C law least l k)))) : zC (d + 3 + 1) 113 [vR (27), vI (i)] σ K := by
  have hl := hg.2.2.1
  have hb := hg.1
  have hC := hg.1.1
  have hC4 := hg.1.2.1
  refine zC_in rfl ?_
  have lp : ∀ (n : Nat) (k c : Nat) (τ : zM) (x : Int), C - c = n → i = k → k < l.length → c ≤ C → zfr [] [18, 19] σ τ → zrs τ (l.set k x) → zG (d + 3) 113 K 0 zfx (20, [vR (27), vI (i), vI ((l.length : Int)), vI ((zset (fun c => decide (zfau law least (l.set k (c : Int)) = 0)) c)), vI ((c : Int))], [], τ) := by
    intro n
    induction n using Nat.strongRecOn with
    | _ n ih =>
    intro k c τ x hn hik hkl g1 hf hrs
    have hls : ∀ y : Int, (l.set k y).length = l.length := fun y => List.length_set
    refine r_iload k_113_20 rfl ?_
    refine r_aload k_113_22 rfl ?_
    refine r_getR (q := 28) k_113_23 ⟨rfl, rfl⟩ ?_
    refine r_const k_113_26 ?_
    refine r_iald (v := (C : Int)) k_113_27 ⟨rfl, rfl⟩ ⟨by decide, by decide⟩ ((congrFun (hf.2 12 (by decide)) 0).trans hy.1) ?_
    refine r_ic_ge k_113_28 (fun h28 => ?_) (fun h28 => ?_)
    · skip
      refine r_iload k_113_64 rfl ?_
      refine r_iret k_113_65 ?_
      have e : c = C := by omega
      subst e
      exact q2 k hik hkl _ hf
    · skip
      refine r_aload k_113_31 rfl ?_
      refine r_getR (q := 34) k_113_32 ⟨rfl, rfl⟩ ?_
      refine r_iload k_113_35 rfl ?_
      refine r_iload k_113_36 rfl ?_
      refine r_iast k_113_38 ⟨rfl, rfl⟩ ⟨by omega, by omega⟩ ?_
      refine r_iload k_113_39 rfl ?_
      refine r_aload k_113_40 rfl ?_
      refine r_iload k_113_41 rfl ?_
      refine r_call (as := [vR (27), vI ((l.length : Int))]) (r := [vI ((zset (fun c => decide (zfau law least (l.set k (c : Int)) = 0)) c))]) k_113_42 rfl rfl rfl ?_
      have F3a : zfr [] [18, 19] σ (zsetA τ 18 (zup (τ.2 18) (i : Int).toNat ((c : Int)))) := zfr_A hf (by decide)
      have R3 := zrs_set (c := (c : Int)) (k := k) (m := (i : Int).toNat) hrs (by omega) (by rw [hls]; omega)
      rw [List.set_set] at R3
      refine t_faultsl (l := l.set k (c : Int)) ⟨hg.1.2.2.1, hg.1.2.2.2.1⟩ hg.1.2.2.2.2 ((congrFun (F3a.2 12 (by decide)) 1).trans hy.2.1) ((congrFun (F3a.2 12 (by decide)) 2).trans hy.2.2.1) R3 (zcol_set (zgd_c hg) (by omega) (by omega) k) (by rw [hls]; omega) (by rw [hls]) (fun τ3 f3 => ?_)
      have F3 := zfr_2 F3a f3 (by decide) (by decide)
      have R3b := zrs_fr R3 f3 (by decide)
      refine r_if_ne k_113_45 (fun h45 => ?_) (fun h45 => ?_)
      · skip
        refine r_const k_113_55 ?_
        refine r_bin (v := (zbin 4 (zset (fun c => decide (zfau law least (l.set k (c : Int)) = 0)) c) 0)) k_113_56 rfl ?_
        refine r_istore (L' := [vR (27), vI (i), vI ((l.length : Int)), vI ((zbin 4 (zset (fun c => decide (zfau law least (l.set k (c : Int)) = 0)) c) 0)), vI ((c : Int))]) k_113_57 rfl ?_
        refine r_iinc (v := (c : Int) + 1) (L' := [vR (27), vI (i), vI ((l.length : Int)), vI ((zbin 4 (zset (fun c => decide (zfau law least (l.set k (c : Int)) = 0)) c) 0)), vI ((c : Int) + 1)]) k_113_58 rfl (zb_add ⟨by omega, by omega⟩) rfl ?_
        refine r_goto k_113_61 ?_
        have e : (zbin 4 (zset (fun c => decide (zfau law least (l.set k (c : Int)) = 0)) c) 0) = (zset (fun c => decide (zfau law least (l.set k (c : Int)) = 0)) (c + 1)) := by rw [zset_or0 (by omega), zset, if_neg (by rw [decide_eq_false (by omega)]; decide)]; omega
        rw [e]
        exact ih _ (by omega) k (c + 1) _ (c : Int) rfl hik hkl (by omega) F3 R3b
      · skip
        refine r_const k_113_48 ?_
        refine r_iload k_113_49 rfl ?_
        refine r_bin (v := (zbin 5 1 (c : Int))) k_113_51 rfl ?_
        refine r_goto k_113_52 ?_
        refine r_bin (v := (zbin 4 (zset (fun c => decide (zfau law least (l.set k (c : Int)) = 0)) c) (zbin 5 1 (c : Int)))) k_113_56 rfl ?_
        refine r_istore (L' := [vR (27), vI (i), vI ((l.length : Int)), vI ((zbin 4 (zset (fun c => decide (zfau law least (l.set k (c : Int)) = 0)) c) (zbin 5 1 (c : Int)))), vI ((c : Int))]) k_113_57 rfl ?_
        refine r_iinc (v := (c : Int) + 1) (L' := [vR (27), vI (i), vI ((l.length : Int)), vI ((zbin 4 (zset (fun c => decide (zfau law least (l.set k (c : Int)) = 0)) c) (zbin 5 1 (c : Int)))), vI ((c : Int) + 1)]) k_113_58 rfl (zb_add ⟨by omega, by omega⟩) rfl ?_
        refine r_goto k_113_61 ?_
        have e : (zbin 4 (zset (fun c => decide (zfau law least (l.set k (c : Int)) = 0)) c) (zbin 5 1 (c : Int))) = (zset (fun c => decide (zfau law least (l.set k (c : Int)) = 0)) (c + 1)) := by rw [zset_or (by omega), zset, if_pos (decide_eq_true (by omega))]
        rw [e]
        exact ih _ (by omega) k (c + 1) _ (c : Int) rfl hik hkl (by omega) F3 R3b
  show zG (d + 3) 113 K 0 zfx (0, [vR (27), vI (i), vU, vU, vU], [], σ)
  refine r_aload k_113_0 rfl ?_
  refine r_iload k_113_1 rfl ?_
  refine r_call (as := [vR (27), vI (i)]) (r := []) k_113_2 rfl rfl rfl ?_
  refine y_isPale hg hy (fun g2 e2 => ?_) (fun g2 => ?_)
  · skip
    obtain ⟨k, hik⟩ : ∃ k : Nat, i = k := ⟨i.toNat, by omega⟩
    refine r_if_ne k_113_5 (fun _ => ?_) (fun hz => absurd hz (by decide))
    refine r_aload k_113_10 rfl ?_
    refine r_call (as := [vR (27)]) (r := []) k_113_11 rfl rfl rfl ?_
    refine v_lay (N := l.length) hy.2.2.2.2.1 hl (fun τ1 f1 r1 => ?_)
    refine r_istore (L' := [vR (27), vI (i), vI ((l.length : Int)), vU, vU]) k_113_14 rfl ?_
    refine r_const k_113_15 ?_
    refine r_istore (L' := [vR (27), vI (i), vI ((l.length : Int)), vI (0), vU]) k_113_16 rfl ?_
    refine r_const k_113_17 ?_
    refine r_istore (L' := [vR (27), vI (i), vI ((l.length : Int)), vI (0), vI (0)]) k_113_18 rfl ?_
    exact lp _ k 0 _ (zlf l k) rfl hik (by omega) (by omega) (zfr_w f1 (by decide) (by decide)) (by rw [zset_self (by omega)]; exact zYrs hy r1)
  · skip
    refine r_if_ne k_113_5 (fun hz => absurd hz (by decide)) (fun _ => ?_)
    refine r_const k_113_8 ?_
    refine r_iret k_113_9 ?_
    exact q1 (by omega)
theorem p_mends {d : Nat} {σ : zM} (h : zInv σ) {i : Int} : zC (d + 41) 58 [vR 0, vI i] σ (fun σ1 r1 => zC (d + 5) 113 [vR 27, vI i] σ1 (zpq σ1 r1)) := by
  obtain ⟨C, law, least, draw, l, p, hg, hx, hy⟩ := h.1
  refine x_mends (d := d + 36) hg hx (fun q => y_mends (d := d + 1) hg hy (fun _ => ⟨⟨_, rfl, rfl⟩, h⟩) (fun k e1 e2 => absurd ⟨by omega, by omega⟩ q)) (fun k e1 e2 τ f => ?_)
  have hy2 : zYn (τ.2 12) C law least draw l p := by rw [f.2 12 (by decide)]; exact hy
  exact y_mends (d := d + 1) hg hy2 (fun q => absurd ⟨by omega, by omega⟩ q) (fun k2 e3 e4 υ f2 => ⟨⟨_, rfl, by rw [show k2 = k by omega]⟩, zInv_fr (zInv_fr h f (by decide) (by decide)) f2 (by decide) (by decide)⟩)
