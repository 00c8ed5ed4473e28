/-! the cheapest row -/
theorem zmul_b {m : Nat} {v : Int} (h : m ≤ 9) (h0 : 0 ≤ v) (h9 : v ≤ 99) : 0 ≤ (m : Int) * v ∧ (m : Int) * v ≤ 900 :=
  ⟨Int.mul_nonneg (by omega) h0, Int.le_trans (Int.mul_le_mul (b := v) (c := 9) (d := 99) (by omega) h9 h0 (by decide)) (by decide)⟩
theorem v_price {d : Nat} {σ : zM} {K : zM → Option zV → Prop} {p : Nat → Int} (hp : zpr σ p) {c : Nat} (hc : c < 4) (q1 : K σ (some (vI (p c)))) : zC (d + 1) 9 [vR 4, vI c] σ K :=
  s_priceOf (fun _ _ => zKe q1 (by rw [← hp c hc, Int.toNat_natCast])) (fun q => by omega)
/-- goes on over colours from c on, n of them -/
def zchC (law least : Int) (F : Nat → Int × List Int → Int × List Int) (l : List Int) : Nat → Nat → Int × List Int → Int × List Int
  | 0, _, a => a
  | n + 1, c, a => zchC law least F l n (c + 1) (if zend law least (l ++ [(c : Int)]) = 0 then F c a else a)
/-- the least sum below the bound, and the first row of it -/
def zch (C : Nat) (law least : Int) (p : Nat → Int) : Nat → List Int → Int → Int × List Int → Int × List Int
  | 0, l, sp, a => if sp < a.1 then (sp, l) else a
  | m + 1, l, sp, a => zchC law least (fun c a => zch C law least p m (l ++ [(c : Int)]) (sp + p c) a) l C 0 a
theorem zchC_id {law least : Int} {F : Nat → Int × List Int → Int × List Int} {l : List Int} : ∀ (n c : Nat) (a : Int × List Int), (∀ k, c ≤ k → k < c + n → F k a = a) → zchC law least F l n c a = a
  | 0, _, _, _ => rfl
  | n + 1, c, a, h => by
    unfold zchC
    have e : (if zend law least (l ++ [(c : Int)]) = 0 then F c a else a) = a := by split; exact h c (Nat.le_refl _) (by omega); rfl
    rw [e]
    exact zchC_id n (c + 1) a (fun k h1 h2 => h k (by omega) (by omega))
/-- what is bound to cost too much changes nothing -/
theorem zch_prune {C : Nat} {law least : Int} {p : Nat → Int} {v : Int} (hv : ∀ c, c < C → v ≤ p c) : ∀ (m : Nat) (l : List Int) (sp : Int) (a : Int × List Int), a.1 ≤ sp + (m : Int) * v → zch C law least p m l sp a = a
  | 0, l, sp, a, h => by unfold zch; rw [if_neg (by have e : ((0 : Nat) : Int) * v = 0 := Int.zero_mul v; omega)]
  | m + 1, l, sp, a, h => by
    unfold zch
    refine zchC_id _ _ _ fun k h1 h2 => zch_prune hv m _ _ _ ?_
    have e : ((m + 1 : Nat) : Int) * v = (m : Int) * v + v := by rw [show ((m + 1 : Nat) : Int) = (m : Int) + 1 from rfl, Int.add_mul, Int.one_mul]
    have := hv k (by omega)
    omega
theorem v_leastPrice {d : Nat} {σ : zM} {K : zM → Option zV → Prop} {C : Nat} {law least : Int} {p : Nat → Int} (hb : zbd C law least) (hw : zrl σ C law least) (hp : zpr σ p) (hpb : ∀ k, k < 4 → 0 ≤ p k ∧ p k ≤ 99) (q1 : ∀ v : Int, (∀ c, c < C → v ≤ p c) → 0 ≤ v → v ≤ 99 → K σ (some (vI v))) : zC (d + 2) 11 [vR 4] σ K := by
  have hC := hb.1
  have hC4 := hb.2.1
  refine zC_in rfl ?_
  have lp : ∀ (n : Nat) (c : Nat) (v : Int), c + n = C → (∀ k, k < c → v ≤ p k) → 0 ≤ v → v ≤ 99 → zG (d + 1) 11 K 0 zfx (5, [vR (4), vI (v), vI ((c : Int))], [], σ) := by
    intro n
    induction n using Nat.strongRecOn with
    | _ n ih =>
    intro c v hn hv h0 h9
    refine r_iload k_11_5 rfl ?_
    refine r_aload k_11_6 rfl ?_
    refine r_getS (v := C) k_11_7 ⟨rfl, rfl⟩ hw.1 ?_
    refine r_ic_ge k_11_10 (fun h10 => ?_) (fun h10 => ?_)
    · skip
      refine r_iload k_11_29 rfl ?_
      refine r_iret k_11_30 ?_
      exact q1 v (fun k hk => hv k (by omega)) h0 h9
    · skip
      refine r_iload k_11_13 rfl ?_
      refine r_aload k_11_14 rfl ?_
      refine r_iload k_11_15 rfl ?_
      refine r_call (as := [vR (4), vI ((c : Int))]) (r := [vI (v)]) k_11_16 rfl rfl rfl ?_
      refine v_price (c := c) hp (by omega) ?_
      have hpc := hpb c (by omega)
      refine r_min (v := if (p c) < v then (p c) else v) k_11_19 rfl rfl ?_
      refine r_istore (L' := [vR (4), vI (if (p c) < v then (p c) else v), vI ((c : Int))]) k_11_22 rfl ?_
      refine r_iinc (v := (c : Int) + 1) (L' := [vR (4), vI (if (p c) < v then (p c) else v), vI ((c : Int) + 1)]) k_11_23 rfl (zb_add ⟨by omega, by omega⟩) rfl ?_
      refine r_goto k_11_26 ?_
      exact ih (n - 1) (by omega) (c + 1) _ (by omega) (fun k hk => by
        by_cases hkc : k = c
        · subst hkc; split <;> omega
        · have := hv k (by omega)
          split <;> omega) (by split <;> omega) (by split <;> omega)
  show zG (d + 1) 11 K 0 zfx (0, [vR (4), vU, vU], [], σ)
  refine r_const k_11_0 ?_
  refine r_istore (L' := [vR (4), vI (99), vU]) k_11_2 rfl ?_
  refine r_const k_11_3 ?_
  refine r_istore (L' := [vR (4), vI (99), vI (0)]) k_11_4 rfl ?_
  exact lp C 0 99 (by omega) (fun k hk => by omega) (by decide) (by decide)
theorem v_cheapest {C : Nat} {law least : Int} {p : Nat → Int} (hb : zbd C law least) (hpb : ∀ k, k < 4 → 0 ≤ p k ∧ p k ≤ 99) : ∀ (m D : Nat), m + 6 ≤ D → m ≤ 8 → ∀ {σ : zM} {K : zM → Option zV → Prop} {l b : List Int} {sp bd : Int}, zrl σ C law least → zpr σ p → zis σ 2 l → zis σ 3 b → zcol l → l.length + m ≤ 70 → 0 ≤ sp → sp + 99 * (m : Int) ≤ 1000 → (∀ τ, zfr [2, 3] [2, 3] σ τ → zis τ 2 l → zis τ 3 (zch C law least p m l sp (bd, b)).2 → K τ (some (vI (zch C law least p m l sp (bd, b)).1))) → zC D 53 [vR 4, vR 22, vI m, vI sp, vI bd, vR 24] σ K := by
  have hC := hb.1
  have hC4 := hb.2.1
  intro m
  induction m with
  | zero =>
    intro D hD hm σ K l b sp bd hw hp hz hy hc hl hs0 hs1 q1
    obtain ⟨d, rfl⟩ : ∃ d, D = d + 6 := ⟨D - 6, by omega⟩
    have F0 : zfr [2, 3] [2, 3] σ σ := zfr_rf
    refine zC_in rfl ?_
    show zG (d + 5) 53 K 0 zfx (0, [vR (4), vR (22), vI (((0 : Nat) : Int)), vI (sp), vI (bd), vR (24), vU, vU], [], σ)
    refine r_iload k_53_0 rfl ?_
    refine r_iload k_53_1 rfl ?_
    refine r_aload k_53_2 rfl ?_
    refine r_call (as := [vR (4)]) (r := [vI (((0 : Nat) : Int)), vI (sp)]) k_53_3 rfl rfl rfl ?_
    refine v_leastPrice hb hw hp hpb (fun v hv1 hv2 hv3 => ?_)
    have hmv := zmul_b (m := 0) (by omega) hv2 hv3
    obtain ⟨P, hP⟩ : ∃ P, ((0 : Nat) : Int) * v = P := ⟨_, rfl⟩
    rw [hP] at hmv
    refine r_bin (v := P) k_53_6 (by rw [zb_mul ⟨by rw [hP]; omega, by rw [hP]; omega⟩]; exact hP) ?_
    refine r_bin (v := sp + P) k_53_7 (zb_add ⟨by omega, by omega⟩) ?_
    refine r_iload k_53_8 rfl ?_
    refine r_ic_lt k_53_10 (fun h10 => ?_) (fun h10 => ?_)
    · skip
      refine r_iload k_53_16 rfl ?_
      refine r_if_gt k_53_17 (fun hz => absurd hz (by omega)) (fun _ => ?_)
      refine r_aload k_53_20 rfl ?_
      refine r_aload k_53_22 rfl ?_
      refine r_aload k_53_23 rfl ?_
      refine r_getS (v := (l).length) k_53_24 ⟨rfl, rfl⟩ hz.1 ?_
      refine r_call (as := [vR (24), vR (22), vI ((l).length)]) (r := []) k_53_27 rfl rfl rfl ?_
      refine s_takel (r := 3) (t := 2) (l := l) (m := (l).length) (by decide) (by decide) hz (by omega) rfl (Nat.le_refl _) (fun τ1 f1 z1 => ?_)
      replace f1 := zfr_w (S' := [3]) (A' := [3]) f1 (by decide) (by decide)
      rw [List.take_length] at z1
      have F1 := zfr_2 F0 f1 (by decide) (by decide)
      have Z1_2 := zis_fr hz f1 (by decide) (by decide)
      have W1 := zrl_fr hw f1 (by decide)
      have P1 := zpr_fr hp f1 (by decide)
      refine r_iload k_53_30 rfl ?_
      refine r_iret k_53_31 ?_
      have hP0 : P = 0 := by (rw [← hP]; exact Int.zero_mul v)
      have e : zch C law least p 0 l sp (bd, b) = (sp, l) := by rw [zch]; exact if_pos (by show sp < bd; omega)
      rw [e] at q1
      exact q1 _ F1 Z1_2 z1
    · skip
      refine r_iload k_53_13 rfl ?_
      refine r_iret k_53_15 ?_
      exact q1 _ F0 hz (by rw [zch_prune hv1 _ _ _ _ (by rw [hP]; exact h10)]; exact hy) |> fun q => zKe q (by rw [zch_prune hv1 _ _ _ _ (by rw [hP]; exact h10)])
  | succ m ih0 =>
    intro D hD hm σ K l b sp bd hw hp hz hy hc hl hs0 hs1 q1
    obtain ⟨d, rfl⟩ : ∃ d, D = d + 6 := ⟨D - 6, by omega⟩
    have F0 : zfr [2, 3] [2, 3] σ σ := zfr_rf
    refine zC_in rfl ?_
    have lp0 : ∀ (n : Nat) (c : Nat) (τ : zM) (s : Int) (b1 : List Int), c + n = C → zrl τ C law least → zpr τ p → zis τ 2 l → zis τ 3 b1 → zfr [2, 3] [2, 3] σ τ → (∀ υ, zfr [2, 3] [2, 3] σ υ → zis υ 2 l → zis υ 3 (zchC law least (fun c a => zch C law least p m (l ++ [(c : Int)]) (sp + p c) a) l n c (s, b1)).2 → K υ (some (vI (zchC law least (fun c a => zch C law least p m (l ++ [(c : Int)]) (sp + p c) a) l n c (s, b1)).1))) → zG (d + 5) 53 K 0 zfx (39, [vR (4), vR (22), vI (((m + 1 : Nat) : Int)), vI (sp), vI (bd), vR (24), vI (s), vI ((c : Int))], [], τ) := by
      intro n
      induction n using Nat.strongRecOn with
      | _ n ih =>
      intro c τ s b1 hn W1 P1 hz1 hy1 F1 hq
      refine r_iload k_53_39 rfl ?_
      refine r_aload k_53_41 rfl ?_
      refine r_getS (v := C) k_53_42 ⟨rfl, rfl⟩ W1.1 ?_
      refine r_ic_ge k_53_45 (fun h45 => ?_) (fun h45 => ?_)
      · skip
        refine r_iload k_53_91 rfl ?_
        refine r_iret k_53_93 ?_
        obtain rfl : n = 0 := by omega
        exact hq _ F1 hz1 hy1
      · skip
        refine r_aload k_53_48 rfl ?_
        refine r_aload k_53_49 rfl ?_
        refine r_iload k_53_50 rfl ?_
        refine r_call (as := [vR (4), vR (22), vI ((c : Int))]) (r := []) k_53_52 rfl rfl rfl ?_
        refine v_stands (r := 2) (l := l) (c := (c : Int)) (by decide) hb W1 hz1 hc (by omega) (by omega) (by omega) (fun τ2 f2 z2 g2 => ?_) (fun τ3 f3 z3 g3 => ?_)
        · skip
          have F2 := zfr_2 F1 f2 (by decide) (by decide)
          have Z2_3 := zis_fr hy1 f2 (by decide) (by decide)
          have W2 := zrl_fr W1 f2 (by decide)
          have P2 := zpr_fr P1 f2 (by decide)
          refine r_if_eq k_53_55 (fun hz => absurd hz (by decide)) (fun _ => ?_)
          refine r_aload k_53_58 rfl ?_
          refine r_aload k_53_59 rfl ?_
          refine r_iload k_53_60 rfl ?_
          refine r_const k_53_61 ?_
          refine r_bin (v := m) k_53_62 (by rw [zb_sub ⟨by omega, by omega⟩]; omega) ?_
          refine r_iload k_53_63 rfl ?_
          refine r_aload k_53_64 rfl ?_
          refine r_iload k_53_65 rfl ?_
          refine r_call (as := [vR (4), vI ((c : Int))]) (r := [vI (sp), vI (m), vR (22), vR (4)]) k_53_67 rfl rfl rfl ?_
          refine v_price (c := c) P2 (by omega) ?_
          have hpc := hpb c (by omega)
          refine r_bin (v := sp + ((p c))) k_53_70 (zb_add ⟨by omega, by omega⟩) ?_
          refine r_iload k_53_71 rfl ?_
          refine r_aload k_53_73 rfl ?_
          refine r_call (as := [vR (4), vR (22), vI (m), vI (sp + ((p c))), vI (s), vR (24)]) (r := []) k_53_75 rfl rfl rfl ?_
          refine ih0 (d + 5) (by omega) (by omega) (l := l ++ [(c : Int)]) (b := b1) W2 P2 z2 Z2_3 (zcol_a hc (by omega) (by omega)) (by rw [zlen1]; omega) (by omega) (by omega) (fun τ4 f4 z4 y4 => ?_)
          have F4 := zfr_2 F2 f4 (by decide) (by decide)
          have W4 := zrl_fr W2 f4 (by decide)
          have P4 := zpr_fr P2 f4 (by decide)
          refine r_istore (L' := [vR (4), vR (22), vI (((m + 1 : Nat) : Int)), vI (sp), vI (bd), vR (24), vI ((zch C law least p m (l ++ [(c : Int)]) (sp + p c) (s, b1)).1), vI ((c : Int))]) k_53_78 rfl ?_
          refine r_aload k_53_80 rfl ?_
          refine r_const k_53_81 ?_
          refine r_call (as := [vR (22), vI (1)]) (r := []) k_53_82 rfl rfl rfl ?_
          refine s_cutl (r := 2) (l := l) (m := [(c : Int)]) (by decide) z4 (by rw [zlen1]; omega) rfl (fun τ5 f5 z5 => ?_)
          have F5 := zfr_2 F4 f5 (by decide) (by decide)
          have Z5_3 := zis_fr y4 f5 (by decide) (by decide)
          have W5 := zrl_fr W4 f5 (by decide)
          have P5 := zpr_fr P4 f5 (by decide)
          refine r_iinc (v := (c : Int) + 1) (L' := [vR (4), vR (22), vI (((m + 1 : Nat) : Int)), vI (sp), vI (bd), vR (24), vI ((zch C law least p m (l ++ [(c : Int)]) (sp + p c) (s, b1)).1), vI ((c : Int) + 1)]) k_53_85 rfl (zb_add ⟨by omega, by omega⟩) rfl ?_
          refine r_goto k_53_88 ?_
          obtain ⟨n2, rfl⟩ : ∃ n2, n = n2 + 1 := ⟨n - 1, by omega⟩
          rw [zchC, if_pos g2] at hq
          exact ih n2 (by omega) (c + 1) _ _ _ (by omega) W5 P5 z5 Z5_3 F5 hq
        · skip
          have F3 := zfr_2 F1 f3 (by decide) (by decide)
          have Z3_3 := zis_fr hy1 f3 (by decide) (by decide)
          have W3 := zrl_fr W1 f3 (by decide)
          have P3 := zpr_fr P1 f3 (by decide)
          refine r_if_eq k_53_55 (fun _ => ?_) (fun hz => absurd hz (by decide))
          refine r_aload k_53_80 rfl ?_
          refine r_const k_53_81 ?_
          refine r_call (as := [vR (22), vI (1)]) (r := []) k_53_82 rfl rfl rfl ?_
          refine s_cutl (r := 2) (l := l) (m := [(c : Int)]) (by decide) z3 (by rw [zlen1]; omega) rfl (fun τ6 f6 z6 => ?_)
          have F6 := zfr_2 F3 f6 (by decide) (by decide)
          have Z6_3 := zis_fr Z3_3 f6 (by decide) (by decide)
          have W6 := zrl_fr W3 f6 (by decide)
          have P6 := zpr_fr P3 f6 (by decide)
          refine r_iinc (v := (c : Int) + 1) (L' := [vR (4), vR (22), vI (((m + 1 : Nat) : Int)), vI (sp), vI (bd), vR (24), vI (s), vI ((c : Int) + 1)]) k_53_85 rfl (zb_add ⟨by omega, by omega⟩) rfl ?_
          refine r_goto k_53_88 ?_
          obtain ⟨n2, rfl⟩ : ∃ n2, n = n2 + 1 := ⟨n - 1, by omega⟩
          rw [zchC, if_neg g3] at hq
          exact ih n2 (by omega) (c + 1) _ _ _ (by omega) W6 P6 z6 Z6_3 F6 hq
    show zG (d + 5) 53 K 0 zfx (0, [vR (4), vR (22), vI (((m + 1 : Nat) : Int)), vI (sp), vI (bd), vR (24), vU, vU], [], σ)
    refine r_iload k_53_0 rfl ?_
    refine r_iload k_53_1 rfl ?_
    refine r_aload k_53_2 rfl ?_
    refine r_call (as := [vR (4)]) (r := [vI (((m + 1 : Nat) : Int)), vI (sp)]) k_53_3 rfl rfl rfl ?_
    refine v_leastPrice hb hw hp hpb (fun v hv1 hv2 hv3 => ?_)
    have hmv := zmul_b (m := m + 1) (by omega) hv2 hv3
    obtain ⟨P, hP⟩ : ∃ P, ((m + 1 : Nat) : Int) * v = P := ⟨_, rfl⟩
    rw [hP] at hmv
    refine r_bin (v := P) k_53_6 (by rw [zb_mul ⟨by rw [hP]; omega, by rw [hP]; omega⟩]; exact hP) ?_
    refine r_bin (v := sp + P) k_53_7 (zb_add ⟨by omega, by omega⟩) ?_
    refine r_iload k_53_8 rfl ?_
    refine r_ic_lt k_53_10 (fun h10 => ?_) (fun h10 => ?_)
    · skip
      refine r_iload k_53_16 rfl ?_
      refine r_if_gt k_53_17 (fun _ => ?_) (fun hz => absurd hz (by omega))
      refine r_iload k_53_32 rfl ?_
      refine r_istore (L' := [vR (4), vR (22), vI (((m + 1 : Nat) : Int)), vI (sp), vI (bd), vR (24), vI (bd), vU]) k_53_34 rfl ?_
      refine r_const k_53_36 ?_
      refine r_istore (L' := [vR (4), vR (22), vI (((m + 1 : Nat) : Int)), vI (sp), vI (bd), vR (24), vI (bd), vI (0)]) k_53_37 rfl ?_
      exact lp0 C 0 _ _ _ (by omega) hw hp hz hy F0 q1
    · skip
      refine r_iload k_53_13 rfl ?_
      refine r_iret k_53_15 ?_
      exact q1 _ F0 hz (by rw [zch_prune hv1 _ _ _ _ (by rw [hP]; exact h10)]; exact hy) |> fun q => zKe q (by rw [zch_prune hv1 _ _ _ _ (by rw [hP]; exact h10)])
