/-! many, rings, ring: the class's searches -/
def zqr (rnd law least : Int) (l : List Int) : Bool := decide (rnd = 0) || zringb law least l
theorem zqr_sw {rnd law least : Int} (a b : Nat) (l : List Int) (ha : a < 4) (hb : b < 4) : zqr rnd law least (l.map (zsw a b)) = zqr rnd law least l := by
  unfold zqr
  rw [zringb_sw (by omega) (by omega)]
theorem zlt_a {l : List Int} {u c : Nat} (h : ∀ x ∈ l, x < (u : Int)) : ∀ x ∈ l ++ [(c : Int)], x < ((max u (c + 1) : Nat) : Int) := fun x hx => by
  rcases List.mem_append.mp hx with q | q
  · have := h x q; omega
  · rw [List.mem_singleton.mp q]; omega
theorem zps_s (C : Nat) (law least : Int) (Q : List Int → Bool) (m : Nat) (l : List Int) (u c : Nat) : zps C law least Q m l u (c + 1) = zps C law least Q m l u c + (if zend law least (l ++ [(c : Int)]) = 0 then (if c < u then 1 else C - u) * zct C law least Q m (l ++ [(c : Int)]) else 0) := rfl
theorem zal1 {X Y : Nat} (hX : X ≤ 262144) (hY : Y = 1 * X) : zbin 2 1 (X : Int) = (Y : Int) := by rw [zb_mul ⟨by omega, by omega⟩]; omega
theorem zalk {C u X Y : Nat} (h : u ≤ C) (hC : C ≤ 4) (hX : X ≤ 262144) (hY : Y = (C - u) * X) : zbin 2 ((C : Int) - (u : Int)) (X : Int) = (Y : Int) := by
  have hb := Nat.mul_le_mul (show C - u ≤ 4 by omega) hX
  have e : ((C : Int) - (u : Int)) * (X : Int) = (Y : Int) := by rw [hY, Int.natCast_mul, Int.ofNat_sub h]
  rw [zb_mul ⟨by rw [e]; omega, by rw [e]; omega⟩, e]
theorem zal_b {C u X Y : Nat} (hC : C ≤ 4) (hX : X ≤ 262144) (hY : Y = (C - u) * X) : Y ≤ 1048576 := by
  have hb := Nat.mul_le_mul (show C - u ≤ 4 by omega) hX
  omega
theorem v_rows {C : Nat} {law least rnd : Int} (hb : zbd C law least) : ∀ (m D : Nat), m + 6 ≤ D → m ≤ 9 → ∀ {σ : zM} {K : zM → Option zV → Prop} {l : List Int} {u : Nat}, zrl σ C law least → zis σ 2 l → zcol l → (∀ x ∈ l, x < (u : Int)) → u ≤ C → l.length + m ≤ 36 → (∀ τ, zfr [2] [2] σ τ → zis τ 2 l → K τ (some (vI ((zct C law least (zqr rnd law least) m l : Nat) : Int)))) → zC D 49 [vR 4, vR 22, vI m, vI u, vI rnd] σ K := by
  have hC := hb.1
  have hC4 := hb.2.1
  intro m
  induction m with
  | zero =>
    intro D hD hm σ K l u hw hz hc hlu huC hl q1
    obtain ⟨d, rfl⟩ : ∃ d, D = d + 6 := ⟨D - 6, by omega⟩
    have F0 : zfr [2] [2] σ σ := zfr_rf
    refine zC_in rfl ?_
    show zG (d + 5) 49 K 0 zfx (0, [vR (4), vR (22), vI (0), vI ((u : Int)), vI (rnd), vU, vU, vU, vU], [], σ)
    refine r_iload k_49_0 rfl ?_
    refine r_if_gt k_49_1 (fun hz => absurd hz (by decide)) (fun _ => ?_)
    refine r_iload k_49_4 rfl ?_
    refine r_if_eq k_49_6 (fun h6 => ?_) (fun h6 => ?_)
    · skip
      refine r_const k_49_17 ?_
      refine r_goto k_49_18 ?_
      refine r_iret k_49_22 ?_
      exact zKe (q1 _ F0 hz) (by rw [zct, if_pos (by rw [zqr, decide_eq_true h6]; rfl)]; rfl)
    · skip
      refine r_aload k_49_9 rfl ?_
      refine r_aload k_49_10 rfl ?_
      refine r_call (as := [vR (4), vR (22)]) (r := []) k_49_11 rfl rfl rfl ?_
      refine v_isRing (l := l) hb hw hz hc (by omega) (fun τ1 f1 z1 g1 => ?_) (fun τ2 f2 z2 g2 => ?_)
      · skip
        have F1 := zfr_2 F0 f1 (by decide) (by decide)
        have W1 := zrl_fr hw f1 (by decide)
        refine r_if_eq k_49_14 (fun hz => absurd hz (by decide)) (fun _ => ?_)
        refine r_const k_49_17 ?_
        refine r_goto k_49_18 ?_
        refine r_iret k_49_22 ?_
        exact zKe (q1 _ F1 z1) (by rw [zct, if_pos (by rw [zqr, zringb_t.mpr g1, Bool.or_true])]; rfl)
      · skip
        have F2 := zfr_2 F0 f2 (by decide) (by decide)
        have W2 := zrl_fr hw f2 (by decide)
        refine r_if_eq k_49_14 (fun _ => ?_) (fun hz => absurd hz (by decide))
        refine r_const k_49_21 ?_
        refine r_iret k_49_22 ?_
        exact zKe (q1 _ F2 z2) (by rw [zct, if_neg (by rw [zqr, zringb_f.mpr g2, decide_eq_false h6]; decide)]; rfl)
  | succ m ih0 =>
    intro D hD hm σ K l u hw hz hc hlu huC hl q1
    obtain ⟨d, rfl⟩ : ∃ d, D = d + 6 := ⟨D - 6, by omega⟩
    have F0 : zfr [2] [2] σ σ := zfr_rf
    refine zC_in rfl ?_
    have lp : ∀ (n : Nat) (c : Nat) (τ : zM) (s : Nat), c + n = min (u + 1) C → zrl τ C law least → zis τ 2 l → zfr [2] [2] σ τ → s = zps C law least (zqr rnd law least) m l u c → zG (d + 5) 49 K 0 zfx (41, [vR (4), vR (22), vI (((m + 1 : Nat) : Int)), vI ((u : Int)), vI (rnd), vI ((s : Int)), vI (((min (u + 1) C : Nat) : Int)), vI ((c : Int)), vU], [], τ) := by
      intro n
      induction n using Nat.strongRecOn with
      | _ n ih =>
      intro c τ s hn W1 hz1 F1 hs
      have hsb : s ≤ c * 1048576 := by rw [hs]; exact zps_b (by omega) (by omega) huC c
      refine r_iload k_49_41 rfl ?_
      refine r_iload k_49_43 rfl ?_
      refine r_ic_ge k_49_45 (fun h45 => ?_) (fun h45 => ?_)
      · skip
        refine r_iload k_49_113 rfl ?_
        refine r_iret k_49_115 ?_
        have e : c = min (u + 1) C := by omega
        exact zKe (q1 _ F1 hz1) (by rw [hs, e, zps_all (by omega) zqr_sw hlu huC])
      · skip
        refine r_aload k_49_48 rfl ?_
        refine r_aload k_49_49 rfl ?_
        refine r_iload k_49_50 rfl ?_
        refine r_call (as := [vR (4), vR (22), vI ((c : Int))]) (r := []) k_49_52 rfl rfl rfl ?_
        refine v_stands (r := 2) (l := l) (c := (c : Int)) (by decide) hb W1 hz1 hc (by omega) (by omega) (by omega) (fun τ3 f3 z3 g3 => ?_) (fun τ4 f4 z4 g4 => ?_)
        · skip
          have F3 := zfr_2 F1 f3 (by decide) (by decide)
          have W3 := zrl_fr W1 f3 (by decide)
          refine r_if_eq k_49_55 (fun hz => absurd hz (by decide)) (fun _ => ?_)
          refine r_iload k_49_58 rfl ?_
          refine r_iload k_49_60 rfl ?_
          refine r_ic_ge k_49_61 (fun h61 => ?_) (fun h61 => ?_)
          · skip
            refine r_aload k_49_68 rfl ?_
            refine r_getS (v := C) k_49_69 ⟨rfl, rfl⟩ W3.1 ?_
            refine r_iload k_49_72 rfl ?_
            refine r_bin (v := C - ((u : Int))) k_49_73 (zb_sub ⟨by omega, by omega⟩) ?_
            refine r_istore (L' := [vR (4), vR (22), vI (((m + 1 : Nat) : Int)), vI ((u : Int)), vI (rnd), vI ((s : Int)), vI (((min (u + 1) C : Nat) : Int)), vI ((c : Int)), vI (C - ((u : Int)))]) k_49_74 rfl ?_
            refine r_iload k_49_76 rfl ?_
            refine r_iload k_49_78 rfl ?_
            refine r_aload k_49_80 rfl ?_
            refine r_aload k_49_81 rfl ?_
            refine r_iload k_49_82 rfl ?_
            refine r_const k_49_83 ?_
            refine r_bin (v := m) k_49_84 (by rw [zb_sub ⟨by omega, by omega⟩]; omega) ?_
            refine r_iload k_49_85 rfl ?_
            refine r_iload k_49_86 rfl ?_
            refine r_const k_49_88 ?_
            refine r_bin (v := (c : Int) + 1) k_49_89 (zb_add ⟨by omega, by omega⟩) ?_
            refine r_max (v := ((max u (c + 1) : Nat) : Int)) k_49_90 rfl (by split <;> omega) ?_
            refine r_iload k_49_93 rfl ?_
            refine r_call (as := [vR (4), vR (22), vI (m), vI (((max u (c + 1) : Nat) : Int)), vI (rnd)]) (r := [vI (C - ((u : Int))), vI ((s : Int))]) k_49_95 rfl rfl rfl ?_
            refine ih0 (d + 5) (by omega) (by omega) (l := l ++ [(c : Int)]) (u := max u (c + 1)) W3 z3 (zcol_a hc (by omega) (by omega)) (zlt_a hlu) (by omega) (by rw [zlen1]; omega) (fun τ5 f5 z5 => ?_)
            have F5 := zfr_2 F3 f5 (by decide) (by decide)
            have W5 := zrl_fr W3 f5 (by decide)
            obtain ⟨X, hX⟩ : ∃ X : Nat, X = zct C law least (zqr rnd law least) m (l ++ [(c : Int)]) := ⟨_, rfl⟩
            have hXb : X ≤ 262144 := by rw [hX]; exact zct_b (by omega) (by omega) _
            obtain ⟨Y, hY⟩ : ∃ Y : Nat, Y = (C - u) * X := ⟨_, rfl⟩
            have hYb := zal_b (by omega) hXb hY
            have hYe := zalk huC (by omega) hXb hY
            rw [← hX]
            refine r_bin (v := (Y : Int)) k_49_98 hYe ?_
            refine r_bin (v := ((s + Y : Nat) : Int)) k_49_99 (by rw [zb_add ⟨by omega, by omega⟩]; omega) ?_
            refine r_istore (L' := [vR (4), vR (22), vI (((m + 1 : Nat) : Int)), vI ((u : Int)), vI (rnd), vI (((s + Y : Nat) : Int)), vI (((min (u + 1) C : Nat) : Int)), vI ((c : Int)), vI (C - ((u : Int)))]) k_49_100 rfl ?_
            refine r_aload k_49_102 rfl ?_
            refine r_const k_49_103 ?_
            refine r_call (as := [vR (22), vI (1)]) (r := []) k_49_104 rfl rfl rfl ?_
            refine s_cutl (r := 2) (l := l) (m := [(c : Int)]) (by decide) z5 (by rw [zlen1]; omega) rfl (fun τ6 f6 z6 => ?_)
            have F6 := zfr_2 F5 f6 (by decide) (by decide)
            have W6 := zrl_fr W5 f6 (by decide)
            refine r_iinc (v := (c : Int) + 1) (L' := [vR (4), vR (22), vI (((m + 1 : Nat) : Int)), vI ((u : Int)), vI (rnd), vI (((s + Y : Nat) : Int)), vI (((min (u + 1) C : Nat) : Int)), vI ((c : Int) + 1), vI (C - ((u : Int)))]) k_49_107 rfl (zb_add ⟨by omega, by omega⟩) rfl ?_
            refine r_goto k_49_110 ?_
            refine r_cut (L' := [vR (4), vR (22), vI (((m + 1 : Nat) : Int)), vI ((u : Int)), vI (rnd), vI (((s + Y : Nat) : Int)), vI (((min (u + 1) C : Nat) : Int)), vI ((c : Int) + 1), vU]) 8 rfl ?_
            exact ih (n - 1) (by omega) (c + 1) _ _ (by omega) W6 z6 F6 (by rw [zps_s, if_pos g3, if_neg (by omega), hs, hY, hX])
          · skip
            refine r_const k_49_64 ?_
            refine r_goto k_49_65 ?_
            refine r_istore (L' := [vR (4), vR (22), vI (((m + 1 : Nat) : Int)), vI ((u : Int)), vI (rnd), vI ((s : Int)), vI (((min (u + 1) C : Nat) : Int)), vI ((c : Int)), vI (1)]) k_49_74 rfl ?_
            refine r_iload k_49_76 rfl ?_
            refine r_iload k_49_78 rfl ?_
            refine r_aload k_49_80 rfl ?_
            refine r_aload k_49_81 rfl ?_
            refine r_iload k_49_82 rfl ?_
            refine r_const k_49_83 ?_
            refine r_bin (v := m) k_49_84 (by rw [zb_sub ⟨by omega, by omega⟩]; omega) ?_
            refine r_iload k_49_85 rfl ?_
            refine r_iload k_49_86 rfl ?_
            refine r_const k_49_88 ?_
            refine r_bin (v := (c : Int) + 1) k_49_89 (zb_add ⟨by omega, by omega⟩) ?_
            refine r_max (v := ((max u (c + 1) : Nat) : Int)) k_49_90 rfl (by split <;> omega) ?_
            refine r_iload k_49_93 rfl ?_
            refine r_call (as := [vR (4), vR (22), vI (m), vI (((max u (c + 1) : Nat) : Int)), vI (rnd)]) (r := [vI (1), vI ((s : Int))]) k_49_95 rfl rfl rfl ?_
            refine ih0 (d + 5) (by omega) (by omega) (l := l ++ [(c : Int)]) (u := max u (c + 1)) W3 z3 (zcol_a hc (by omega) (by omega)) (zlt_a hlu) (by omega) (by rw [zlen1]; omega) (fun τ7 f7 z7 => ?_)
            have F7 := zfr_2 F3 f7 (by decide) (by decide)
            have W7 := zrl_fr W3 f7 (by decide)
            obtain ⟨X, hX⟩ : ∃ X : Nat, X = zct C law least (zqr rnd law least) m (l ++ [(c : Int)]) := ⟨_, rfl⟩
            have hXb : X ≤ 262144 := by rw [hX]; exact zct_b (by omega) (by omega) _
            obtain ⟨Y, hY⟩ : ∃ Y : Nat, Y = 1 * X := ⟨_, rfl⟩
            have hYb : Y ≤ 1048576 := by omega
            have hYe := zal1 hXb hY
            rw [← hX]
            refine r_bin (v := (Y : Int)) k_49_98 hYe ?_
            refine r_bin (v := ((s + Y : Nat) : Int)) k_49_99 (by rw [zb_add ⟨by omega, by omega⟩]; omega) ?_
            refine r_istore (L' := [vR (4), vR (22), vI (((m + 1 : Nat) : Int)), vI ((u : Int)), vI (rnd), vI (((s + Y : Nat) : Int)), vI (((min (u + 1) C : Nat) : Int)), vI ((c : Int)), vI (1)]) k_49_100 rfl ?_
            refine r_aload k_49_102 rfl ?_
            refine r_const k_49_103 ?_
            refine r_call (as := [vR (22), vI (1)]) (r := []) k_49_104 rfl rfl rfl ?_
            refine s_cutl (r := 2) (l := l) (m := [(c : Int)]) (by decide) z7 (by rw [zlen1]; omega) rfl (fun τ8 f8 z8 => ?_)
            have F8 := zfr_2 F7 f8 (by decide) (by decide)
            have W8 := zrl_fr W7 f8 (by decide)
            refine r_iinc (v := (c : Int) + 1) (L' := [vR (4), vR (22), vI (((m + 1 : Nat) : Int)), vI ((u : Int)), vI (rnd), vI (((s + Y : Nat) : Int)), vI (((min (u + 1) C : Nat) : Int)), vI ((c : Int) + 1), vI (1)]) k_49_107 rfl (zb_add ⟨by omega, by omega⟩) rfl ?_
            refine r_goto k_49_110 ?_
            refine r_cut (L' := [vR (4), vR (22), vI (((m + 1 : Nat) : Int)), vI ((u : Int)), vI (rnd), vI (((s + Y : Nat) : Int)), vI (((min (u + 1) C : Nat) : Int)), vI ((c : Int) + 1), vU]) 8 rfl ?_
            exact ih (n - 1) (by omega) (c + 1) _ _ (by omega) W8 z8 F8 (by rw [zps_s, if_pos g3, if_pos (by omega), hs, hY, hX])
        · skip
          have F4 := zfr_2 F1 f4 (by decide) (by decide)
          have W4 := zrl_fr W1 f4 (by decide)
          refine r_if_eq k_49_55 (fun _ => ?_) (fun hz => absurd hz (by decide))
          refine r_aload k_49_102 rfl ?_
          refine r_const k_49_103 ?_
          refine r_call (as := [vR (22), vI (1)]) (r := []) k_49_104 rfl rfl rfl ?_
          refine s_cutl (r := 2) (l := l) (m := [(c : Int)]) (by decide) z4 (by rw [zlen1]; omega) rfl (fun τ9 f9 z9 => ?_)
          have F9 := zfr_2 F4 f9 (by decide) (by decide)
          have W9 := zrl_fr W4 f9 (by decide)
          refine r_iinc (v := (c : Int) + 1) (L' := [vR (4), vR (22), vI (((m + 1 : Nat) : Int)), vI ((u : Int)), vI (rnd), vI ((s : Int)), vI (((min (u + 1) C : Nat) : Int)), vI ((c : Int) + 1), vU]) k_49_107 rfl (zb_add ⟨by omega, by omega⟩) rfl ?_
          refine r_goto k_49_110 ?_
          exact ih (n - 1) (by omega) (c + 1) _ _ (by omega) W9 z9 F9 (by rw [zps_s, if_neg g4, hs]; rfl)
    show zG (d + 5) 49 K 0 zfx (0, [vR (4), vR (22), vI (((m + 1 : Nat) : Int)), vI ((u : Int)), vI (rnd), vU, vU, vU, vU], [], σ)
    refine r_iload k_49_0 rfl ?_
    refine r_if_gt k_49_1 (fun _ => ?_) (fun hz => absurd hz (by omega))
    refine r_const k_49_23 ?_
    refine r_istore (L' := [vR (4), vR (22), vI (((m + 1 : Nat) : Int)), vI ((u : Int)), vI (rnd), vI (0), vU, vU, vU]) k_49_24 rfl ?_
    refine r_iload k_49_26 rfl ?_
    refine r_const k_49_27 ?_
    refine r_bin (v := (u : Int) + 1) k_49_28 (zb_add ⟨by omega, by omega⟩) ?_
    refine r_aload k_49_29 rfl ?_
    refine r_getS (v := C) k_49_30 ⟨rfl, rfl⟩ hw.1 ?_
    refine r_min (v := ((min (u + 1) C : Nat) : Int)) k_49_33 rfl (by split <;> omega) ?_
    refine r_istore (L' := [vR (4), vR (22), vI (((m + 1 : Nat) : Int)), vI ((u : Int)), vI (rnd), vI (0), vI (((min (u + 1) C : Nat) : Int)), vU, vU]) k_49_36 rfl ?_
    refine r_const k_49_38 ?_
    refine r_istore (L' := [vR (4), vR (22), vI (((m + 1 : Nat) : Int)), vI ((u : Int)), vI (rnd), vI (0), vI (((min (u + 1) C : Nat) : Int)), vI (0), vU]) k_49_39 rfl ?_
    exact lp _ 0 _ 0 (Nat.zero_add _) hw hz F0 rfl
theorem v_findRing {C : Nat} {law least : Int} (hb : zbd C law least) : ∀ (m D : Nat), m + 6 ≤ D → m ≤ 9 → ∀ {σ : zM} {K : zM → Option zV → Prop} {l : List Int} {u : Nat}, zrl σ C law least → zis σ 2 l → zcol l → (∀ x ∈ l, x < (u : Int)) → u ≤ C → l.length + m ≤ 36 → (∀ τ q, zfr [2, 3] [2, 3] σ τ → zis τ 2 l → zfd C law least (zringb law least) m l = some q → zis τ 3 q → K τ (some (vI 1))) → (∀ τ, zfr [2, 3] [2, 3] σ τ → zis τ 2 l → zfd C law least (zringb law least) m l = none → K τ (some (vI 0))) → zC D 51 [vR 4, vR 22, vI m, vI u, vR 24] σ K := by
  have hC := hb.1
  have hC4 := hb.2.1
  intro m
  induction m with
  | zero =>
    intro D hD hm σ K l u hw hz hc hlu huC hl q1 q2
    obtain ⟨d, rfl⟩ : ∃ d, D = d + 6 := ⟨D - 6, by omega⟩
    have F0 : zfr [2, 3] [2, 3] σ σ := zfr_rf
    refine zC_in rfl ?_
    show zG (d + 5) 51 K 0 zfx (0, [vR (4), vR (22), vI (0), vI ((u : Int)), vR (24), vU, vU, vU], [], σ)
    refine r_iload k_51_0 rfl ?_
    refine r_if_gt k_51_1 (fun hz => absurd hz (by decide)) (fun _ => ?_)
    refine r_aload k_51_4 rfl ?_
    refine r_aload k_51_6 rfl ?_
    refine r_aload k_51_7 rfl ?_
    refine r_getS (v := (l).length) k_51_8 ⟨rfl, rfl⟩ hz.1 ?_
    refine r_call (as := [vR (24), vR (22), vI ((l).length)]) (r := []) k_51_11 rfl rfl rfl ?_
    refine s_takel (r := 3) (t := 2) (l := l) (m := (l).length) (by decide) (by decide) hz (by omega) rfl (Nat.le_refl _) (fun τ10 f10 z10 => ?_)
    replace f10 := zfr_w (S' := [3]) (A' := [3]) f10 (by decide) (by decide)
    rw [List.take_length] at z10
    have F10 := zfr_2 F0 f10 (by decide) (by decide)
    have Z10_2 := zis_fr hz f10 (by decide) (by decide)
    have W10 := zrl_fr hw f10 (by decide)
    refine r_aload k_51_14 rfl ?_
    refine r_aload k_51_15 rfl ?_
    refine r_call (as := [vR (4), vR (22)]) (r := []) k_51_16 rfl rfl rfl ?_
    refine v_isRing (l := l) hb W10 Z10_2 hc (by omega) (fun τ11 f11 z11 g11 => ?_) (fun τ12 f12 z12 g12 => ?_)
    · skip
      have F11 := zfr_2 F10 f11 (by decide) (by decide)
      have Z11_3 := zis_fr z10 f11 (by decide) (by decide)
      have W11 := zrl_fr W10 f11 (by decide)
      refine r_zret k_51_19 (by omega) ?_
      exact q1 _ l F11 z11 (by rw [zfd, if_pos (zringb_t.mpr g11)]) Z11_3
    · skip
      have F12 := zfr_2 F10 f12 (by decide) (by decide)
      have Z12_3 := zis_fr z10 f12 (by decide) (by decide)
      have W12 := zrl_fr W10 f12 (by decide)
      refine r_zret k_51_19 (by omega) ?_
      exact q2 _ F12 z12 (by rw [zfd, if_neg (by rw [zringb_f.mpr g12]; decide)])
  | succ m ih0 =>
    intro D hD hm σ K l u hw hz hc hlu huC hl q1 q2
    obtain ⟨d, rfl⟩ : ∃ d, D = d + 6 := ⟨D - 6, by omega⟩
    have F0 : zfr [2, 3] [2, 3] σ σ := zfr_rf
    refine zC_in rfl ?_
    have lp1 : ∀ (n : Nat) (c : Int) (τ : zM), K τ (some (vI 1)) → zG (d + 5) 51 K 0 zfx (38, [vR (4), vR (22), vI (((m + 1 : Nat) : Int)), vI ((u : Int)), vR (24), vI (1), vI (((min (u + 1) C : Nat) : Int)), vI (c)], [], τ) := by
      intro n
      induction n using Nat.strongRecOn with
      | _ n ih =>
      intro c τ hq
      refine r_iload k_51_38 rfl ?_
      refine r_iload k_51_40 rfl ?_
      refine r_ic_ge k_51_42 (fun h42 => ?_) (fun h42 => ?_)
      · skip
        refine r_iload k_51_99 rfl ?_
        refine r_zret k_51_101 (by omega) ?_
        exact hq
      · skip
        refine r_iload k_51_45 rfl ?_
        refine r_if_ne k_51_47 (fun _ => ?_) (fun hz => absurd hz (by decide))
        refine r_iload k_51_99 rfl ?_
        refine r_zret k_51_101 (by omega) ?_
        exact hq
    have lp0 : ∀ (n : Nat) (c : Nat) (τ : zM), c + n = min (u + 1) C → zrl τ C law least → zis τ 2 l → zfr [2, 3] [2, 3] σ τ → (∀ k, k < c → zend law least (l ++ [(k : Int)]) = 0 → zfd C law least (zringb law least) m (l ++ [(k : Int)]) = none) → zG (d + 5) 51 K 0 zfx (38, [vR (4), vR (22), vI (((m + 1 : Nat) : Int)), vI ((u : Int)), vR (24), vI (0), vI (((min (u + 1) C : Nat) : Int)), vI ((c : Int))], [], τ) := by
      intro n
      induction n using Nat.strongRecOn with
      | _ n ih =>
      intro c τ hn W1 hz1 F1 hno
      refine r_iload k_51_38 rfl ?_
      refine r_iload k_51_40 rfl ?_
      refine r_ic_ge k_51_42 (fun h42 => ?_) (fun h42 => ?_)
      · skip
        refine r_iload k_51_99 rfl ?_
        refine r_zret k_51_101 (by omega) ?_
        exact q2 _ F1 hz1 (by
          by_cases huC2 : u = C
          · rw [show zfd C law least (zringb law least) (m + 1) l = zfdC law least (fun c => zfd C law least (zringb law least) m (l ++ [(c : Int)])) l (C) 0 from rfl]
            exact (zfdC_0 _ _).mpr fun k _ h2 h3 => hno k (by omega) h3
          · rw [zfd_all (by omega) (fun a b l ha hb => zringb_sw (by omega) (by omega)) hlu huC (fun h => hno u (by omega))]
            exact (zfdC_0 _ _).mpr fun k _ h2 h3 => hno k (by omega) h3)
      · skip
        refine r_iload k_51_45 rfl ?_
        refine r_if_ne k_51_47 (fun hz => absurd hz (by decide)) (fun _ => ?_)
        refine r_aload k_51_50 rfl ?_
        refine r_aload k_51_51 rfl ?_
        refine r_iload k_51_52 rfl ?_
        refine r_call (as := [vR (4), vR (22), vI ((c : Int))]) (r := []) k_51_54 rfl rfl rfl ?_
        refine v_stands (r := 2) (l := l) (c := (c : Int)) (by decide) hb W1 hz1 hc (by omega) (by omega) (by omega) (fun τ13 f13 z13 g13 => ?_) (fun τ14 f14 z14 g14 => ?_)
        · skip
          have F13 := zfr_2 F1 f13 (by decide) (by decide)
          have W13 := zrl_fr W1 f13 (by decide)
          refine r_if_eq k_51_57 (fun hz => absurd hz (by decide)) (fun _ => ?_)
          refine r_aload k_51_60 rfl ?_
          refine r_aload k_51_61 rfl ?_
          refine r_iload k_51_62 rfl ?_
          refine r_const k_51_63 ?_
          refine r_bin (v := m) k_51_64 (by rw [zb_sub ⟨by omega, by omega⟩]; omega) ?_
          refine r_iload k_51_65 rfl ?_
          refine r_iload k_51_66 rfl ?_
          refine r_const k_51_68 ?_
          refine r_bin (v := (c : Int) + 1) k_51_69 (zb_add ⟨by omega, by omega⟩) ?_
          refine r_max (v := ((max u (c + 1) : Nat) : Int)) k_51_70 rfl (by split <;> omega) ?_
          refine r_aload k_51_73 rfl ?_
          refine r_call (as := [vR (4), vR (22), vI (m), vI (((max u (c + 1) : Nat) : Int)), vR (24)]) (r := []) k_51_75 rfl rfl rfl ?_
          refine ih0 (d + 5) (by omega) (by omega) (l := l ++ [(c : Int)]) (u := max u (c + 1)) W13 z13 (zcol_a hc (by omega) (by omega)) (zlt_a hlu) (by omega) (by rw [zlen1]; omega) (fun τ15 w15 f15 z15 g15 y15 => ?_) (fun τ16 f16 z16 g16 => ?_)
          · skip
            have F15 := zfr_2 F13 f15 (by decide) (by decide)
            have W15 := zrl_fr W13 f15 (by decide)
            refine r_if_eq k_51_78 (fun hz => absurd hz (by decide)) (fun _ => ?_)
            refine r_const k_51_81 ?_
            refine r_goto k_51_82 ?_
            refine r_istore (L' := [vR (4), vR (22), vI (((m + 1 : Nat) : Int)), vI ((u : Int)), vR (24), vI (1), vI (((min (u + 1) C : Nat) : Int)), vI ((c : Int))]) k_51_86 rfl ?_
            refine r_aload k_51_88 rfl ?_
            refine r_const k_51_89 ?_
            refine r_call (as := [vR (22), vI (1)]) (r := []) k_51_90 rfl rfl rfl ?_
            refine s_cutl (r := 2) (l := l) (m := [(c : Int)]) (by decide) z15 (by rw [zlen1]; omega) rfl (fun τ17 f17 z17 => ?_)
            have F17 := zfr_2 F15 f17 (by decide) (by decide)
            have Z17_3 := zis_fr y15 f17 (by decide) (by decide)
            have W17 := zrl_fr W15 f17 (by decide)
            refine r_iinc (v := (c : Int) + 1) (L' := [vR (4), vR (22), vI (((m + 1 : Nat) : Int)), vI ((u : Int)), vR (24), vI (1), vI (((min (u + 1) C : Nat) : Int)), vI ((c : Int) + 1)]) k_51_93 rfl (zb_add ⟨by omega, by omega⟩) rfl ?_
            refine r_goto k_51_96 ?_
            refine lp1 0 _ _ (q1 _ _ F17 z17 ?_ Z17_3)
            show zfdC law least (fun c => zfd C law least (zringb law least) m (l ++ [(c : Int)])) l (C) 0 = some _
            have hsk : ∀ (a j : Nat), j + a = c → zfdC law least (fun c => zfd C law least (zringb law least) m (l ++ [(c : Int)])) l (C - j) j = zfdC law least (fun c => zfd C law least (zringb law least) m (l ++ [(c : Int)])) l (C - c) c := by
              intro a
              induction a with
              | zero => intro j hj; rw [show j = c by omega]
              | succ a iha =>
                intro j hj
                rw [show C - j = (C - (j + 1)) + 1 by omega, zfdC_n (hno j (by omega)), iha (j + 1) (by omega)]
            have e0 := hsk c 0 (by omega)
            rw [Nat.sub_zero] at e0
            rw [e0, show C - c = (C - (c + 1)) + 1 by omega]
            exact zfdC_s g13 g15
          · skip
            have F16 := zfr_2 F13 f16 (by decide) (by decide)
            have W16 := zrl_fr W13 f16 (by decide)
            refine r_if_eq k_51_78 (fun _ => ?_) (fun hz => absurd hz (by decide))
            refine r_const k_51_85 ?_
            refine r_istore (L' := [vR (4), vR (22), vI (((m + 1 : Nat) : Int)), vI ((u : Int)), vR (24), vI (0), vI (((min (u + 1) C : Nat) : Int)), vI ((c : Int))]) k_51_86 rfl ?_
            refine r_aload k_51_88 rfl ?_
            refine r_const k_51_89 ?_
            refine r_call (as := [vR (22), vI (1)]) (r := []) k_51_90 rfl rfl rfl ?_
            refine s_cutl (r := 2) (l := l) (m := [(c : Int)]) (by decide) z16 (by rw [zlen1]; omega) rfl (fun τ18 f18 z18 => ?_)
            have F18 := zfr_2 F16 f18 (by decide) (by decide)
            have W18 := zrl_fr W16 f18 (by decide)
            refine r_iinc (v := (c : Int) + 1) (L' := [vR (4), vR (22), vI (((m + 1 : Nat) : Int)), vI ((u : Int)), vR (24), vI (0), vI (((min (u + 1) C : Nat) : Int)), vI ((c : Int) + 1)]) k_51_93 rfl (zb_add ⟨by omega, by omega⟩) rfl ?_
            refine r_goto k_51_96 ?_
            exact ih (n - 1) (by omega) (c + 1) _ (by omega) W18 z18 F18 (fun k hk => by
              by_cases hkc : k = c
              · subst hkc; exact fun _ => g16
              · exact hno k (by omega))
        · skip
          have F14 := zfr_2 F1 f14 (by decide) (by decide)
          have W14 := zrl_fr W1 f14 (by decide)
          refine r_if_eq k_51_57 (fun _ => ?_) (fun hz => absurd hz (by decide))
          refine r_const k_51_85 ?_
          refine r_istore (L' := [vR (4), vR (22), vI (((m + 1 : Nat) : Int)), vI ((u : Int)), vR (24), vI (0), vI (((min (u + 1) C : Nat) : Int)), vI ((c : Int))]) k_51_86 rfl ?_
          refine r_aload k_51_88 rfl ?_
          refine r_const k_51_89 ?_
          refine r_call (as := [vR (22), vI (1)]) (r := []) k_51_90 rfl rfl rfl ?_
          refine s_cutl (r := 2) (l := l) (m := [(c : Int)]) (by decide) z14 (by rw [zlen1]; omega) rfl (fun τ19 f19 z19 => ?_)
          have F19 := zfr_2 F14 f19 (by decide) (by decide)
          have W19 := zrl_fr W14 f19 (by decide)
          refine r_iinc (v := (c : Int) + 1) (L' := [vR (4), vR (22), vI (((m + 1 : Nat) : Int)), vI ((u : Int)), vR (24), vI (0), vI (((min (u + 1) C : Nat) : Int)), vI ((c : Int) + 1)]) k_51_93 rfl (zb_add ⟨by omega, by omega⟩) rfl ?_
          refine r_goto k_51_96 ?_
          exact ih (n - 1) (by omega) (c + 1) _ (by omega) W19 z19 F19 (fun k hk => by
            by_cases hkc : k = c
            · subst hkc; exact fun h => absurd h g14
            · exact hno k (by omega))
    show zG (d + 5) 51 K 0 zfx (0, [vR (4), vR (22), vI (((m + 1 : Nat) : Int)), vI ((u : Int)), vR (24), vU, vU, vU], [], σ)
    refine r_iload k_51_0 rfl ?_
    refine r_if_gt k_51_1 (fun _ => ?_) (fun hz => absurd hz (by omega))
    refine r_const k_51_20 ?_
    refine r_istore (L' := [vR (4), vR (22), vI (((m + 1 : Nat) : Int)), vI ((u : Int)), vR (24), vI (0), vU, vU]) k_51_21 rfl ?_
    refine r_iload k_51_23 rfl ?_
    refine r_const k_51_24 ?_
    refine r_bin (v := (u : Int) + 1) k_51_25 (zb_add ⟨by omega, by omega⟩) ?_
    refine r_aload k_51_26 rfl ?_
    refine r_getS (v := C) k_51_27 ⟨rfl, rfl⟩ hw.1 ?_
    refine r_min (v := ((min (u + 1) C : Nat) : Int)) k_51_30 rfl (by split <;> omega) ?_
    refine r_istore (L' := [vR (4), vR (22), vI (((m + 1 : Nat) : Int)), vI ((u : Int)), vR (24), vI (0), vI (((min (u + 1) C : Nat) : Int)), vU]) k_51_33 rfl ?_
    refine r_const k_51_35 ?_
    refine r_istore (L' := [vR (4), vR (22), vI (((m + 1 : Nat) : Int)), vI ((u : Int)), vR (24), vI (0), vI (((min (u + 1) C : Nat) : Int)), vI (0)]) k_51_36 rfl ?_
    exact lp0 _ 0 _ (Nat.zero_add _) hw hz F0 (fun k hk => by omega)
