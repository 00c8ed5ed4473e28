/-! the searches of the class -/
theorem zlen1 {l : List Int} {c : Int} : (l ++ [c]).length = l.length + 1 := by simp
theorem zbest_len {l b : List Int} {n : Nat} (h1 : l.length ≤ n) (h2 : b.length ≤ n) : (zbest l b).length ≤ n := by unfold zbest; split <;> assumption
theorem zvisC_len {law least : Int} {V : List Int → List Int → List Int × Bool} {l : List Int} {N : Nat} (hV : ∀ (c : Int) b, b.length ≤ N → (V (l ++ [c]) b).1.length ≤ N) : ∀ (n c : Nat) (b : List Int), b.length ≤ N → (zvisC law least V l n c b).1.length ≤ N
  | 0, _, b, h => h
  | n + 1, c, b, h => by
    unfold zvisC
    split
    · split
      · exact hV _ _ h
      · exact zvisC_len hV n (c + 1) _ (hV _ _ h)
    · exact zvisC_len hV n (c + 1) _ h
theorem zvis_len {C : Nat} {law least : Int} {N : Nat} : ∀ (m : Nat) (l b : List Int), l.length + m ≤ N → b.length ≤ N → (zvis C law least m l b).1.length ≤ N
  | 0, l, b, h1, h2 => zbest_len (by omega) h2
  | m + 1, l, b, h1, h2 => zvisC_len (fun c b hb => zvis_len m _ b (by rw [zlen1]; omega) hb) _ _ _ (zbest_len (by omega) h2)
theorem v_goOn {C : Nat} {law least : Int} (hb : zbd C law least) : ∀ (m D : Nat), m + 6 ≤ D → ∀ {σ : zM} {K : zM → Option zV → Prop} {l b : List Int}, zrl σ C law least → zis σ 2 l → zis σ 3 b → zcol l → l.length + m ≤ 70 → b.length ≤ 72 → (∀ τ, zfr [2, 3] [2, 3] σ τ → zis τ 2 l → zis τ 3 (zvis C law least m l b).1 → K τ (some (vI (zb1 (zvis C law least m l b).2)))) → zC D 45 [vR 4, vR 22, vI m, vR 24] σ K := by
  intro m
  induction m with
  | zero =>
    intro D hD σ K l b hw hz hy hc hl hbl q1
    obtain ⟨d, rfl⟩ : ∃ d, D = d + 6 := ⟨D - 6, by omega⟩
    have hC := hb.1
    have hC4 := hb.2.1
    have F0 : zfr [2, 3] [2, 3] σ σ := zfr_rf
    refine zC_in rfl ?_
    show zG (d + 5) 45 K 0 zfx (0, [vR (4), vR (22), vI (0), vR (24), vU, vU], [], σ)
    refine r_aload k_45_0 rfl ?_
    refine r_getS (v := (l).length) k_45_1 ⟨rfl, rfl⟩ hz.1 ?_
    refine r_aload k_45_4 rfl ?_
    refine r_getS (v := (b).length) k_45_5 ⟨rfl, rfl⟩ hy.1 ?_
    refine r_ic_le k_45_8 (fun h8 => ?_) (fun h8 => ?_)
    · skip
      refine r_iload k_45_20 rfl ?_
      refine r_if_gt k_45_21 (fun hz => absurd hz (by decide)) (fun _ => ?_)
      refine r_const k_45_24 ?_
      refine r_zret k_45_25 (by omega) ?_
      refine q1 _ F0 hz ?_
      show zis _ 3 (zbest l b)
      rw [show zbest l b = b from if_neg (by omega)]
      exact hy
    · skip
      refine r_aload k_45_11 rfl ?_
      refine r_aload k_45_12 rfl ?_
      refine r_aload k_45_13 rfl ?_
      refine r_getS (v := (l).length) k_45_14 ⟨rfl, rfl⟩ hz.1 ?_
      refine r_call (as := [vR (24), vR (22), vI ((l).length)]) (r := []) k_45_17 rfl rfl rfl ?_
      refine s_takel (r := 3) (t := 2) (l := l) (m := (l).length) (by decide) (by decide) hz (by omega) rfl (Nat.le_refl _) (fun τ1 f1 z1 => ?_)
      replace f1 := zfr_w (S' := [3]) (A' := [3]) f1 (by decide) (by decide)
      rw [List.take_length] at z1
      have F1 := zfr_2 F0 f1 (by decide) (by decide)
      have Z1_2 := zis_fr hz f1 (by decide) (by decide)
      have W1 := zrl_fr hw f1 (by decide)
      refine r_iload k_45_20 rfl ?_
      refine r_if_gt k_45_21 (fun hz => absurd hz (by decide)) (fun _ => ?_)
      refine r_const k_45_24 ?_
      refine r_zret k_45_25 (by omega) ?_
      refine q1 _ F1 Z1_2 ?_
      show zis _ 3 (zbest l b)
      rw [show zbest l b = l from if_pos (by omega)]
      exact z1
  | succ m ih0 =>
    intro D hD σ K l b hw hz hy hc hl hbl q1
    obtain ⟨d, rfl⟩ : ∃ d, D = d + 6 := ⟨D - 6, by omega⟩
    have hC := hb.1
    have hC4 := hb.2.1
    have F0 : zfr [2, 3] [2, 3] σ σ := zfr_rf
    refine zC_in rfl ?_
    have lp1 : ∀ (n : Nat) (c : Int) (τ : zM), K τ (some (vI 1)) → zG (d + 5) 45 K 0 zfx (32, [vR (4), vR (22), vI (((m + 1 : Nat) : Int)), vR (24), vI (1), vI (c)], [], τ) := by
      intro n
      induction n using Nat.strongRecOn with
      | _ n ih =>
      intro c τ hq
      refine r_iload k_45_32 rfl ?_
      refine r_aload k_45_34 rfl ?_
      refine r_getS (v := τ.1 4) k_45_35 ⟨rfl, rfl⟩ rfl ?_
      refine r_ic_ge k_45_38 (fun h38 => ?_) (fun h38 => ?_)
      · skip
        refine r_iload k_45_86 rfl ?_
        refine r_zret k_45_88 (by omega) ?_
        exact hq
      · skip
        refine r_iload k_45_41 rfl ?_
        refine r_if_ne k_45_43 (fun _ => ?_) (fun hz => absurd hz (by decide))
        refine r_iload k_45_86 rfl ?_
        refine r_zret k_45_88 (by omega) ?_
        exact hq
    have lp0 : ∀ (n : Nat) (c : Nat) (τ : zM) (b1 : List Int), c + n = C → zrl τ C law least → zis τ 2 l → zis τ 3 b1 → b1.length ≤ 72 → zfr [2, 3] [2, 3] σ τ → (∀ υ, zfr [2, 3] [2, 3] σ υ → zis υ 2 l → zis υ 3 (zvisC law least (zvis C law least m) l n c b1).1 → K υ (some (vI (zb1 (zvisC law least (zvis C law least m) l n c b1).2)))) → zG (d + 5) 45 K 0 zfx (32, [vR (4), vR (22), vI (((m + 1 : Nat) : Int)), vR (24), vI (0), vI ((c : Int))], [], τ) := by
      intro n
      induction n using Nat.strongRecOn with
      | _ n ih =>
      intro c τ b1 hn W1 hz1 hy1 hb1 F1 hq
      refine r_iload k_45_32 rfl ?_
      refine r_aload k_45_34 rfl ?_
      refine r_getS (v := C) k_45_35 ⟨rfl, rfl⟩ W1.1 ?_
      refine r_ic_ge k_45_38 (fun h38 => ?_) (fun h38 => ?_)
      · skip
        refine r_iload k_45_86 rfl ?_
        refine r_zret k_45_88 (by omega) ?_
        obtain rfl : n = 0 := by omega
        exact hq _ F1 hz1 hy1
      · skip
        refine r_iload k_45_41 rfl ?_
        refine r_if_ne k_45_43 (fun hz => absurd hz (by decide)) (fun _ => ?_)
        refine r_aload k_45_46 rfl ?_
        refine r_aload k_45_47 rfl ?_
        refine r_iload k_45_48 rfl ?_
        refine r_call (as := [vR (4), vR (22), vI ((c : Int))]) (r := []) k_45_50 rfl rfl rfl ?_
        refine v_stands (r := 2) (l := l) (c := (c : Int)) (by decide) hb W1 hz1 hc (by omega) (by omega) (by omega) (fun τ2 f2 z2 g2 => ?_) (fun τ3 f3 z3 g3 => ?_)
        · skip
          have F2 := zfr_2 F1 f2 (by decide) (by decide)
          have Z2_3 := zis_fr hy1 f2 (by decide) (by decide)
          have W2 := zrl_fr W1 f2 (by decide)
          refine r_if_eq k_45_53 (fun hz => absurd hz (by decide)) (fun _ => ?_)
          refine r_aload k_45_56 rfl ?_
          refine r_aload k_45_57 rfl ?_
          refine r_iload k_45_58 rfl ?_
          refine r_const k_45_59 ?_
          refine r_bin (v := m) k_45_60 (by rw [zb_sub ⟨by omega, by omega⟩]; omega) ?_
          refine r_aload k_45_61 rfl ?_
          refine r_call (as := [vR (4), vR (22), vI (m), vR (24)]) (r := []) k_45_62 rfl rfl rfl ?_
          refine ih0 (d + 5) (by omega) (l := l ++ [(c : Int)]) (b := b1) W2 z2 Z2_3 (zcol_a hc (by omega) (by omega)) (by rw [zlen1]; omega) hb1 (fun τ4 f4 z4 y4 => ?_)
          have F4 := zfr_2 F2 f4 (by decide) (by decide)
          have W4 := zrl_fr W2 f4 (by decide)
          refine r_if_eq k_45_65 (fun h65 => ?_) (fun h65 => ?_)
          · skip
            refine r_const k_45_72 ?_
            refine r_istore (L' := [vR (4), vR (22), vI (((m + 1 : Nat) : Int)), vR (24), vI (0), vI ((c : Int))]) k_45_73 rfl ?_
            refine r_aload k_45_75 rfl ?_
            refine r_const k_45_76 ?_
            refine r_call (as := [vR (22), vI (1)]) (r := []) k_45_77 rfl rfl rfl ?_
            refine s_cutl (r := 2) (l := l) (m := [(c : Int)]) (by decide) z4 (by rw [zlen1]; omega) rfl (fun τ5 f5 z5 => ?_)
            have F5 := zfr_2 F4 f5 (by decide) (by decide)
            have Z5_3 := zis_fr y4 f5 (by decide) (by decide)
            have W5 := zrl_fr W4 f5 (by decide)
            refine r_iinc (v := (c : Int) + 1) (L' := [vR (4), vR (22), vI (((m + 1 : Nat) : Int)), vR (24), vI (0), vI ((c : Int) + 1)]) k_45_80 rfl (zb_add ⟨by omega, by omega⟩) rfl ?_
            refine r_goto k_45_83 ?_
            obtain ⟨n2, rfl⟩ : ∃ n2, n = n2 + 1 := ⟨n - 1, by omega⟩
            unfold zvisC at hq
            rw [if_pos g2, if_neg (by rw [zb1_e.mp h65]; decide)] at hq
            exact ih n2 (by omega) (c + 1) _ _ (by omega) W5 z5 Z5_3 (zvis_len m _ _ (by rw [zlen1]; omega) hb1) F5 hq
          · skip
            refine r_const k_45_68 ?_
            refine r_goto k_45_69 ?_
            refine r_istore (L' := [vR (4), vR (22), vI (((m + 1 : Nat) : Int)), vR (24), vI (1), vI ((c : Int))]) k_45_73 rfl ?_
            refine r_aload k_45_75 rfl ?_
            refine r_const k_45_76 ?_
            refine r_call (as := [vR (22), vI (1)]) (r := []) k_45_77 rfl rfl rfl ?_
            refine s_cutl (r := 2) (l := l) (m := [(c : Int)]) (by decide) z4 (by rw [zlen1]; omega) rfl (fun τ6 f6 z6 => ?_)
            have F6 := zfr_2 F4 f6 (by decide) (by decide)
            have Z6_3 := zis_fr y4 f6 (by decide) (by decide)
            have W6 := zrl_fr W4 f6 (by decide)
            refine r_iinc (v := (c : Int) + 1) (L' := [vR (4), vR (22), vI (((m + 1 : Nat) : Int)), vR (24), vI (1), vI ((c : Int) + 1)]) k_45_80 rfl (zb_add ⟨by omega, by omega⟩) rfl ?_
            refine r_goto k_45_83 ?_
            obtain ⟨n2, rfl⟩ : ∃ n2, n = n2 + 1 := ⟨n - 1, by omega⟩
            unfold zvisC at hq
            rw [if_pos g2, if_pos (zb1_ne.mp h65)] at hq
            exact lp1 0 _ _ (hq _ F6 z6 Z6_3)
        · skip
          have F3 := zfr_2 F1 f3 (by decide) (by decide)
          have Z3_3 := zis_fr hy1 f3 (by decide) (by decide)
          have W3 := zrl_fr W1 f3 (by decide)
          refine r_if_eq k_45_53 (fun _ => ?_) (fun hz => absurd hz (by decide))
          refine r_const k_45_72 ?_
          refine r_istore (L' := [vR (4), vR (22), vI (((m + 1 : Nat) : Int)), vR (24), vI (0), vI ((c : Int))]) k_45_73 rfl ?_
          refine r_aload k_45_75 rfl ?_
          refine r_const k_45_76 ?_
          refine r_call (as := [vR (22), vI (1)]) (r := []) k_45_77 rfl rfl rfl ?_
          refine s_cutl (r := 2) (l := l) (m := [(c : Int)]) (by decide) z3 (by rw [zlen1]; omega) rfl (fun τ7 f7 z7 => ?_)
          have F7 := zfr_2 F3 f7 (by decide) (by decide)
          have Z7_3 := zis_fr Z3_3 f7 (by decide) (by decide)
          have W7 := zrl_fr W3 f7 (by decide)
          refine r_iinc (v := (c : Int) + 1) (L' := [vR (4), vR (22), vI (((m + 1 : Nat) : Int)), vR (24), vI (0), vI ((c : Int) + 1)]) k_45_80 rfl (zb_add ⟨by omega, by omega⟩) rfl ?_
          refine r_goto k_45_83 ?_
          obtain ⟨n2, rfl⟩ : ∃ n2, n = n2 + 1 := ⟨n - 1, by omega⟩
          unfold zvisC at hq
          rw [if_neg g3] at hq
          exact ih n2 (by omega) (c + 1) _ _ (by omega) W7 z7 Z7_3 hb1 F7 hq
    show zG (d + 5) 45 K 0 zfx (0, [vR (4), vR (22), vI (((m + 1 : Nat) : Int)), vR (24), vU, vU], [], σ)
    refine r_aload k_45_0 rfl ?_
    refine r_getS (v := (l).length) k_45_1 ⟨rfl, rfl⟩ hz.1 ?_
    refine r_aload k_45_4 rfl ?_
    refine r_getS (v := (b).length) k_45_5 ⟨rfl, rfl⟩ hy.1 ?_
    refine r_ic_le k_45_8 (fun h8 => ?_) (fun h8 => ?_)
    · skip
      refine r_iload k_45_20 rfl ?_
      refine r_if_gt k_45_21 (fun _ => ?_) (fun hz => absurd hz (by omega))
      refine r_const k_45_26 ?_
      refine r_istore (L' := [vR (4), vR (22), vI (((m + 1 : Nat) : Int)), vR (24), vI (0), vU]) k_45_27 rfl ?_
      refine r_const k_45_29 ?_
      refine r_istore (L' := [vR (4), vR (22), vI (((m + 1 : Nat) : Int)), vR (24), vI (0), vI (0)]) k_45_30 rfl ?_
      refine lp0 C 0 _ b (by omega) hw hz hy (by omega) F0 ?_
      have e : zbest l b = b := if_neg (by omega)
      rw [zvis, e] at q1
      exact q1
    · skip
      refine r_aload k_45_11 rfl ?_
      refine r_aload k_45_12 rfl ?_
      refine r_aload k_45_13 rfl ?_
      refine r_getS (v := (l).length) k_45_14 ⟨rfl, rfl⟩ hz.1 ?_
      refine r_call (as := [vR (24), vR (22), vI ((l).length)]) (r := []) k_45_17 rfl rfl rfl ?_
      refine s_takel (r := 3) (t := 2) (l := l) (m := (l).length) (by decide) (by decide) hz (by omega) rfl (Nat.le_refl _) (fun τ8 f8 z8 => ?_)
      replace f8 := zfr_w (S' := [3]) (A' := [3]) f8 (by decide) (by decide)
      rw [List.take_length] at z8
      have F8 := zfr_2 F0 f8 (by decide) (by decide)
      have Z8_2 := zis_fr hz f8 (by decide) (by decide)
      have W8 := zrl_fr hw f8 (by decide)
      refine r_iload k_45_20 rfl ?_
      refine r_if_gt k_45_21 (fun _ => ?_) (fun hz => absurd hz (by omega))
      refine r_const k_45_26 ?_
      refine r_istore (L' := [vR (4), vR (22), vI (((m + 1 : Nat) : Int)), vR (24), vI (0), vU]) k_45_27 rfl ?_
      refine r_const k_45_29 ?_
      refine r_istore (L' := [vR (4), vR (22), vI (((m + 1 : Nat) : Int)), vR (24), vI (0), vI (0)]) k_45_30 rfl ?_
      refine lp0 C 0 _ l (by omega) W8 Z8_2 z8 (by omega) F8 ?_
      have e : zbest l b = l := if_pos (by omega)
      rw [zvis, e] at q1
      exact q1
