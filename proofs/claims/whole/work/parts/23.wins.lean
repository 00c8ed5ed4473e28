/-! wins: the class's two searches -/
def zex (P : Nat → Bool) : Nat → Nat → Bool
  | 0, _ => false
  | n + 1, c => P c || zex P n (c + 1)
theorem zex_t {P : Nat → Bool} {n c : Nat} (h : P c = true) : zex P (n + 1) c = true := by unfold zex; rw [h]; rfl
theorem zex_f {P : Nat → Bool} {n c : Nat} (h : P c = false) : zex P (n + 1) c = zex P n (c + 1) := by rw [zex, h]; rfl
theorem zex_iff {P : Nat → Bool} : ∀ (n c : Nat), zex P n c = true ↔ ∃ k, c ≤ k ∧ k < c + n ∧ P k = true
  | 0, c => ⟨fun h => by (cases h), fun ⟨k, h1, h2, _⟩ => by omega⟩
  | n + 1, c => by
    have ih := zex_iff (P := P) n (c + 1)
    cases hp : P c with
    | true => rw [zex_t hp]; exact ⟨fun _ => ⟨c, Nat.le_refl _, by omega, hp⟩, fun _ => rfl⟩
    | false =>
      rw [zex_f hp, ih]
      constructor
      · intro ⟨k, h1, h2, h3⟩; exact ⟨k, by omega, by omega, h3⟩
      · intro ⟨k, h1, h2, h3⟩
        refine ⟨k, ?_, by omega, h3⟩
        by_cases hk : k = c
        · subst hk; rw [hp] at h3; cases h3
        · omega
theorem zex_congr {P Q : Nat → Bool} (h : ∀ k, P k = Q k) (n c : Nat) : zex P n c = zex Q n c := by rw [show P = Q from funext h]
/-- the colour c stands behind l -/
def zok (law least : Int) (l : List Int) (c : Nat) : Bool := decide (zend law least (l ++ [(c : Int)]) = 0)
/-- who paints now: 0 is stuck or lost, 1 wins, 2 neither, m more pales at most -/
def zval (C : Nat) (law least : Int) : Nat → List Int → Nat
  | 0, l => if zex (zok law least l) C 0 = true then 2 else 0
  | m + 1, l => if zex (fun c => zok law least l c && decide (zval C law least m (l ++ [(c : Int)]) = 0)) C 0 = true then 1 else if zex (fun c => zok law least l c && decide (zval C law least m (l ++ [(c : Int)]) = 2)) C 0 = true then 2 else 0
theorem zval_le (C : Nat) (law least : Int) : ∀ (m : Nat) (l : List Int), zval C law least m l ≤ 2
  | 0, l => by unfold zval; split <;> omega
  | m + 1, l => by unfold zval; split <;> (try split) <;> omega
theorem zval_01 {C : Nat} {law least : Int} {l : List Int} : decide (zval C law least 0 l = 1) = false := by
  refine decide_eq_false ?_
  unfold zval; split <;> omega
theorem zval_00 {C : Nat} {law least : Int} {l : List Int} : decide (zval C law least 0 l = 0) = !zex (fun c => zok law least l c && !false) C 0 := by
  rw [zex_congr (Q := zok law least l) (fun k => by rw [Bool.not_false, Bool.and_true])]
  unfold zval
  cases zex (zok law least l) C 0 <;> rfl
theorem zval_1 {C : Nat} {law least : Int} {m : Nat} {l : List Int} : decide (zval C law least (m + 1) l = 1) = zex (fun c => zok law least l c && decide (zval C law least m (l ++ [(c : Int)]) = 0)) C 0 := by
  rw [zval]
  split
  · next h => rw [h]; rfl
  · next h => rw [Bool.eq_false_iff.mpr h]; split <;> rfl
theorem zval_0 {C : Nat} {law least : Int} {m : Nat} {l : List Int} : decide (zval C law least (m + 1) l = 0) = !zex (fun c => zok law least l c && !decide (zval C law least m (l ++ [(c : Int)]) = 1)) C 0 := by
  rw [zval]
  cases h : zex (fun c => zok law least l c && !decide (zval C law least m (l ++ [(c : Int)]) = 1)) C 0 with
  | true =>
    obtain ⟨k, h1, h2, h3⟩ := (zex_iff _ _).mp h
    rw [Bool.and_eq_true] at h3
    have hne : zval C law least m (l ++ [(k : Int)]) ≠ 1 := by simpa using h3.2
    have hle := zval_le C law least m (l ++ [(k : Int)])
    split
    · rfl
    · next g1 =>
      split
      · rfl
      · next g2 =>
        exfalso
        rcases (show zval C law least m (l ++ [(k : Int)]) = 0 ∨ zval C law least m (l ++ [(k : Int)]) = 2 by omega) with q | q
        · exact g1 ((zex_iff _ _).mpr ⟨k, h1, h2, by rw [h3.1, q]; rfl⟩)
        · exact g2 ((zex_iff _ _).mpr ⟨k, h1, h2, by rw [h3.1, q]; rfl⟩)
  | false =>
    rw [if_neg, if_neg]
    · rfl
    · intro g
      obtain ⟨k, h1, h2, h3⟩ := (zex_iff _ _).mp g
      rw [Bool.and_eq_true] at h3
      have : zex (fun c => zok law least l c && !decide (zval C law least m (l ++ [(c : Int)]) = 1)) C 0 = true := (zex_iff _ _).mpr ⟨k, h1, h2, by rw [h3.1, of_decide_eq_true h3.2]; rfl⟩
      rw [h] at this; cases this
    · intro g
      obtain ⟨k, h1, h2, h3⟩ := (zex_iff _ _).mp g
      rw [Bool.and_eq_true] at h3
      have : zex (fun c => zok law least l c && !decide (zval C law least m (l ++ [(c : Int)]) = 1)) C 0 = true := (zex_iff _ _).mpr ⟨k, h1, h2, by rw [h3.1, of_decide_eq_true h3.2]; rfl⟩
      rw [h] at this; cases this
theorem v_canWin_n {d : Nat} {σ : zM} {K : zM → Option zV → Prop} {x : Int} (hx : x ≤ 0) (q1 : K σ (some (vI 0))) : zC (d + 1) 55 [vR 4, vR 22, vI x] σ K := by
  refine zC_in rfl ?_
  show zG (d) 55 K 0 zfx (0, [vR (4), vR (22), vI (x), vU, vU], [], σ)
  refine r_iload k_55_0 rfl ?_
  refine r_if_gt k_55_1 (fun hz => absurd hz (by omega)) (fun _ => ?_)
  refine r_const k_55_4 ?_
  refine r_zret k_55_5 (by omega) ?_
  exact q1
theorem v_wins {C : Nat} {law least : Int} (hb : zbd C law least) : ∀ (m : Nat), (∀ (D : Nat), m + 6 ≤ D → ∀ {σ : zM} {K : zM → Option zV → Prop} {l : List Int}, zrl σ C law least → zis σ 2 l → zcol l → l.length + m ≤ 70 → (∀ τ, zfr [2] [2] σ τ → zis τ 2 l → K τ (some (vI (zb1 (decide (zval C law least m l = 1)))))) → zC D 55 [vR 4, vR 22, vI m] σ K) ∧ (∀ (D : Nat), m + 6 ≤ D → ∀ {σ : zM} {K : zM → Option zV → Prop} {l : List Int}, zrl σ C law least → zis σ 2 l → zcol l → l.length + m ≤ 70 → (∀ τ, zfr [2] [2] σ τ → zis τ 2 l → K τ (some (vI (zb1 (decide (zval C law least m l = 0)))))) → zC D 56 [vR 4, vR 22, vI m] σ K) := by
  have hC := hb.1
  have hC4 := hb.2.1
  intro m
  induction m with
  | zero =>
    refine ⟨?_, ?_⟩
    · skip
      intro D hD σ K l hw hz hc hl q1
      obtain ⟨d, rfl⟩ : ∃ d, D = d + 6 := ⟨D - 6, by omega⟩
      have F0 : zfr [2] [2] σ σ := zfr_rf
      refine v_canWin_n (by omega) ?_
      rw [zval_01] at q1
      exact q1 _ F0 hz
    · skip
      intro D hD σ K l hw hz hc hl q1
      obtain ⟨d, rfl⟩ : ∃ d, D = d + 6 := ⟨D - 6, by omega⟩
      have F0 : zfr [2] [2] σ σ := zfr_rf
      refine zC_in rfl ?_
      have lp1 : ∀ (n : Nat) (c : Int) (τ : zM), K τ (some (vI 0)) → zG (d + 5) 56 K 0 zfx (11, [vR (4), vR (22), vI (0), vI (0), vI (c)], [], τ) := by
        intro n
        induction n using Nat.strongRecOn with
        | _ n ih =>
        intro c τ hq
        refine r_iload k_56_11 rfl ?_
        refine r_aload k_56_13 rfl ?_
        refine r_getS (v := τ.1 4) k_56_14 ⟨rfl, rfl⟩ rfl ?_
        refine r_ic_ge k_56_17 (fun h17 => ?_) (fun h17 => ?_)
        · skip
          refine r_iload k_56_62 rfl ?_
          refine r_zret k_56_63 (by omega) ?_
          exact hq
        · skip
          refine r_iload k_56_20 rfl ?_
          refine r_if_eq k_56_21 (fun _ => ?_) (fun hz => absurd hz (by decide))
          refine r_iload k_56_62 rfl ?_
          refine r_zret k_56_63 (by omega) ?_
          exact hq
      have lp0 : ∀ (n : Nat) (c : Nat) (τ : zM), c + n = C → zrl τ C law least → zis τ 2 l → zfr [2] [2] σ τ → (∀ υ, zfr [2] [2] σ υ → zis υ 2 l → K υ (some (vI (zb1 (!zex (fun c => zok law least l c && !false) n c))))) → zG (d + 5) 56 K 0 zfx (11, [vR (4), vR (22), vI (0), vI (1), vI ((c : Int))], [], τ) := by
        intro n
        induction n using Nat.strongRecOn with
        | _ n ih =>
        intro c τ hn W1 hz1 F1 hq
        refine r_iload k_56_11 rfl ?_
        refine r_aload k_56_13 rfl ?_
        refine r_getS (v := C) k_56_14 ⟨rfl, rfl⟩ W1.1 ?_
        refine r_ic_ge k_56_17 (fun h17 => ?_) (fun h17 => ?_)
        · skip
          refine r_iload k_56_62 rfl ?_
          refine r_zret k_56_63 (by omega) ?_
          obtain rfl : n = 0 := by omega
          exact hq _ F1 hz1
        · skip
          refine r_iload k_56_20 rfl ?_
          refine r_if_eq k_56_21 (fun hz => absurd hz (by decide)) (fun _ => ?_)
          refine r_aload k_56_24 rfl ?_
          refine r_aload k_56_25 rfl ?_
          refine r_iload k_56_26 rfl ?_
          refine r_call (as := [vR (4), vR (22), vI ((c : Int))]) (r := []) k_56_28 rfl rfl rfl ?_
          refine v_stands (r := 2) (l := l) (c := (c : Int)) (by decide) hb W1 hz1 hc (by omega) (by omega) (by omega) (fun τ1 f1 z1 g1 => ?_) (fun τ2 f2 z2 g2 => ?_)
          · skip
            have F1 := zfr_2 F1 f1 (by decide) (by decide)
            have W1 := zrl_fr W1 f1 (by decide)
            refine r_if_eq k_56_31 (fun hz => absurd hz (by decide)) (fun _ => ?_)
            refine r_aload k_56_34 rfl ?_
            refine r_aload k_56_35 rfl ?_
            refine r_iload k_56_36 rfl ?_
            refine r_const k_56_37 ?_
            refine r_bin (v := -1) k_56_38 (by decide +kernel) ?_
            refine r_call (as := [vR (4), vR (22), vI (-1)]) (r := []) k_56_39 rfl rfl rfl ?_
            refine v_canWin_n (by omega) ?_
            refine r_if_eq k_56_42 (fun _ => ?_) (fun hz => absurd hz (by decide))
            refine r_const k_56_49 ?_
            refine r_istore (L' := [vR (4), vR (22), vI (0), vI (0), vI ((c : Int))]) k_56_50 rfl ?_
            refine r_aload k_56_51 rfl ?_
            refine r_const k_56_52 ?_
            refine r_call (as := [vR (22), vI (1)]) (r := []) k_56_53 rfl rfl rfl ?_
            refine s_cutl (r := 2) (l := l) (m := [(c : Int)]) (by decide) z1 (by rw [zlen1]; omega) rfl (fun τ4 f4 z4 => ?_)
            have F4 := zfr_2 F1 f4 (by decide) (by decide)
            have W4 := zrl_fr W1 f4 (by decide)
            refine r_iinc (v := (c : Int) + 1) (L' := [vR (4), vR (22), vI (0), vI (0), vI ((c : Int) + 1)]) k_56_56 rfl (zb_add ⟨by omega, by omega⟩) rfl ?_
            refine r_goto k_56_59 ?_
            obtain ⟨n2, rfl⟩ : ∃ n2, n = n2 + 1 := ⟨n - 1, by omega⟩
            rw [zex_t (by simp only [zok]; rw [decide_eq_true g1]; rfl)] at hq
            exact lp1 0 _ _ (hq _ F4 z4)
          · skip
            have F2 := zfr_2 F1 f2 (by decide) (by decide)
            have W2 := zrl_fr W1 f2 (by decide)
            refine r_if_eq k_56_31 (fun _ => ?_) (fun hz => absurd hz (by decide))
            refine r_const k_56_45 ?_
            refine r_goto k_56_46 ?_
            refine r_istore (L' := [vR (4), vR (22), vI (0), vI (1), vI ((c : Int))]) k_56_50 rfl ?_
            refine r_aload k_56_51 rfl ?_
            refine r_const k_56_52 ?_
            refine r_call (as := [vR (22), vI (1)]) (r := []) k_56_53 rfl rfl rfl ?_
            refine s_cutl (r := 2) (l := l) (m := [(c : Int)]) (by decide) z2 (by rw [zlen1]; omega) rfl (fun τ5 f5 z5 => ?_)
            have F5 := zfr_2 F2 f5 (by decide) (by decide)
            have W5 := zrl_fr W2 f5 (by decide)
            refine r_iinc (v := (c : Int) + 1) (L' := [vR (4), vR (22), vI (0), vI (1), vI ((c : Int) + 1)]) k_56_56 rfl (zb_add ⟨by omega, by omega⟩) rfl ?_
            refine r_goto k_56_59 ?_
            obtain ⟨n2, rfl⟩ : ∃ n2, n = n2 + 1 := ⟨n - 1, by omega⟩
            rw [zex_f (by simp only [zok]; rw [decide_eq_false g2]; rfl)] at hq
            exact ih n2 (by omega) (c + 1) _ (by omega) W5 z5 F5 hq
      show zG (d + 5) 56 K 0 zfx (0, [vR (4), vR (22), vI (0), vU, vU], [], σ)
      refine r_iload k_56_0 rfl ?_
      refine r_if_ge k_56_1 (fun _ => ?_) (fun hz => absurd hz (by decide))
      refine r_const k_56_6 ?_
      refine r_istore (L' := [vR (4), vR (22), vI (0), vI (1), vU]) k_56_7 rfl ?_
      refine r_const k_56_8 ?_
      refine r_istore (L' := [vR (4), vR (22), vI (0), vI (1), vI (0)]) k_56_9 rfl ?_
      rw [zval_00] at q1
      exact lp0 C 0 _ (by omega) hw hz F0 q1
  | succ m ih0 =>
    refine ⟨?_, ?_⟩
    · skip
      intro D hD σ K l hw hz hc hl q1
      obtain ⟨d, rfl⟩ : ∃ d, D = d + 6 := ⟨D - 6, by omega⟩
      have F0 : zfr [2] [2] σ σ := zfr_rf
      refine zC_in rfl ?_
      have lp1 : ∀ (n : Nat) (c : Int) (τ : zM), K τ (some (vI 1)) → zG (d + 5) 55 K 0 zfx (11, [vR (4), vR (22), vI (((m + 1 : Nat) : Int)), vI (1), vI (c)], [], τ) := by
        intro n
        induction n using Nat.strongRecOn with
        | _ n ih =>
        intro c τ hq
        refine r_iload k_55_11 rfl ?_
        refine r_aload k_55_13 rfl ?_
        refine r_getS (v := τ.1 4) k_55_14 ⟨rfl, rfl⟩ rfl ?_
        refine r_ic_ge k_55_17 (fun h17 => ?_) (fun h17 => ?_)
        · skip
          refine r_iload k_55_62 rfl ?_
          refine r_zret k_55_63 (by omega) ?_
          exact hq
        · skip
          refine r_iload k_55_20 rfl ?_
          refine r_if_ne k_55_21 (fun _ => ?_) (fun hz => absurd hz (by decide))
          refine r_iload k_55_62 rfl ?_
          refine r_zret k_55_63 (by omega) ?_
          exact hq
      have lp0 : ∀ (n : Nat) (c : Nat) (τ : zM), c + n = C → zrl τ C law least → zis τ 2 l → zfr [2] [2] σ τ → (∀ υ, zfr [2] [2] σ υ → zis υ 2 l → K υ (some (vI (zb1 (zex (fun c => zok law least l c && decide (zval C law least m (l ++ [(c : Int)]) = 0)) n c))))) → zG (d + 5) 55 K 0 zfx (11, [vR (4), vR (22), vI (((m + 1 : Nat) : Int)), vI (0), vI ((c : Int))], [], τ) := by
        intro n
        induction n using Nat.strongRecOn with
        | _ n ih =>
        intro c τ hn W1 hz1 F1 hq
        refine r_iload k_55_11 rfl ?_
        refine r_aload k_55_13 rfl ?_
        refine r_getS (v := C) k_55_14 ⟨rfl, rfl⟩ W1.1 ?_
        refine r_ic_ge k_55_17 (fun h17 => ?_) (fun h17 => ?_)
        · skip
          refine r_iload k_55_62 rfl ?_
          refine r_zret k_55_63 (by omega) ?_
          obtain rfl : n = 0 := by omega
          exact hq _ F1 hz1
        · skip
          refine r_iload k_55_20 rfl ?_
          refine r_if_ne k_55_21 (fun hz => absurd hz (by decide)) (fun _ => ?_)
          refine r_aload k_55_24 rfl ?_
          refine r_aload k_55_25 rfl ?_
          refine r_iload k_55_26 rfl ?_
          refine r_call (as := [vR (4), vR (22), vI ((c : Int))]) (r := []) k_55_28 rfl rfl rfl ?_
          refine v_stands (r := 2) (l := l) (c := (c : Int)) (by decide) hb W1 hz1 hc (by omega) (by omega) (by omega) (fun τ6 f6 z6 g6 => ?_) (fun τ7 f7 z7 g7 => ?_)
          · skip
            have F6 := zfr_2 F1 f6 (by decide) (by decide)
            have W6 := zrl_fr W1 f6 (by decide)
            refine r_if_eq k_55_31 (fun hz => absurd hz (by decide)) (fun _ => ?_)
            refine r_aload k_55_34 rfl ?_
            refine r_aload k_55_35 rfl ?_
            refine r_iload k_55_36 rfl ?_
            refine r_const k_55_37 ?_
            refine r_bin (v := m) k_55_38 (by rw [zb_sub ⟨by omega, by omega⟩]; omega) ?_
            refine r_call (as := [vR (4), vR (22), vI (m)]) (r := []) k_55_39 rfl rfl rfl ?_
            refine ih0.2 (d + 5) (by omega) (l := l ++ [(c : Int)]) W6 z6 (zcol_a hc (by omega) (by omega)) (by rw [zlen1]; omega) (fun τ8 f8 z8 => ?_)
            have F8 := zfr_2 F6 f8 (by decide) (by decide)
            have W8 := zrl_fr W6 f8 (by decide)
            refine r_if_eq k_55_42 (fun h42 => ?_) (fun h42 => ?_)
            · skip
              refine r_const k_55_49 ?_
              refine r_istore (L' := [vR (4), vR (22), vI (((m + 1 : Nat) : Int)), vI (0), vI ((c : Int))]) k_55_50 rfl ?_
              refine r_aload k_55_51 rfl ?_
              refine r_const k_55_52 ?_
              refine r_call (as := [vR (22), vI (1)]) (r := []) k_55_53 rfl rfl rfl ?_
              refine s_cutl (r := 2) (l := l) (m := [(c : Int)]) (by decide) z8 (by rw [zlen1]; omega) rfl (fun τ9 f9 z9 => ?_)
              have F9 := zfr_2 F8 f9 (by decide) (by decide)
              have W9 := zrl_fr W8 f9 (by decide)
              refine r_iinc (v := (c : Int) + 1) (L' := [vR (4), vR (22), vI (((m + 1 : Nat) : Int)), vI (0), vI ((c : Int) + 1)]) k_55_56 rfl (zb_add ⟨by omega, by omega⟩) rfl ?_
              refine r_goto k_55_59 ?_
              obtain ⟨n2, rfl⟩ : ∃ n2, n = n2 + 1 := ⟨n - 1, by omega⟩
              rw [zex_f (by simp only [zok]; rw [decide_eq_true g6, zb1_e.mp h42]; rfl)] at hq
              exact ih n2 (by omega) (c + 1) _ (by omega) W9 z9 F9 hq
            · skip
              refine r_const k_55_45 ?_
              refine r_goto k_55_46 ?_
              refine r_istore (L' := [vR (4), vR (22), vI (((m + 1 : Nat) : Int)), vI (1), vI ((c : Int))]) k_55_50 rfl ?_
              refine r_aload k_55_51 rfl ?_
              refine r_const k_55_52 ?_
              refine r_call (as := [vR (22), vI (1)]) (r := []) k_55_53 rfl rfl rfl ?_
              refine s_cutl (r := 2) (l := l) (m := [(c : Int)]) (by decide) z8 (by rw [zlen1]; omega) rfl (fun τ10 f10 z10 => ?_)
              have F10 := zfr_2 F8 f10 (by decide) (by decide)
              have W10 := zrl_fr W8 f10 (by decide)
              refine r_iinc (v := (c : Int) + 1) (L' := [vR (4), vR (22), vI (((m + 1 : Nat) : Int)), vI (1), vI ((c : Int) + 1)]) k_55_56 rfl (zb_add ⟨by omega, by omega⟩) rfl ?_
              refine r_goto k_55_59 ?_
              obtain ⟨n2, rfl⟩ : ∃ n2, n = n2 + 1 := ⟨n - 1, by omega⟩
              rw [zex_t (by simp only [zok]; rw [decide_eq_true g6, zb1_ne.mp h42]; rfl)] at hq
              exact lp1 0 _ _ (hq _ F10 z10)
          · skip
            have F7 := zfr_2 F1 f7 (by decide) (by decide)
            have W7 := zrl_fr W1 f7 (by decide)
            refine r_if_eq k_55_31 (fun _ => ?_) (fun hz => absurd hz (by decide))
            refine r_const k_55_49 ?_
            refine r_istore (L' := [vR (4), vR (22), vI (((m + 1 : Nat) : Int)), vI (0), vI ((c : Int))]) k_55_50 rfl ?_
            refine r_aload k_55_51 rfl ?_
            refine r_const k_55_52 ?_
            refine r_call (as := [vR (22), vI (1)]) (r := []) k_55_53 rfl rfl rfl ?_
            refine s_cutl (r := 2) (l := l) (m := [(c : Int)]) (by decide) z7 (by rw [zlen1]; omega) rfl (fun τ11 f11 z11 => ?_)
            have F11 := zfr_2 F7 f11 (by decide) (by decide)
            have W11 := zrl_fr W7 f11 (by decide)
            refine r_iinc (v := (c : Int) + 1) (L' := [vR (4), vR (22), vI (((m + 1 : Nat) : Int)), vI (0), vI ((c : Int) + 1)]) k_55_56 rfl (zb_add ⟨by omega, by omega⟩) rfl ?_
            refine r_goto k_55_59 ?_
            obtain ⟨n2, rfl⟩ : ∃ n2, n = n2 + 1 := ⟨n - 1, by omega⟩
            rw [zex_f (by simp only [zok]; rw [decide_eq_false g7]; rfl)] at hq
            exact ih n2 (by omega) (c + 1) _ (by omega) W11 z11 F11 hq
      show zG (d + 5) 55 K 0 zfx (0, [vR (4), vR (22), vI (((m + 1 : Nat) : Int)), vU, vU], [], σ)
      refine r_iload k_55_0 rfl ?_
      refine r_if_gt k_55_1 (fun _ => ?_) (fun hz => absurd hz (by omega))
      refine r_const k_55_6 ?_
      refine r_istore (L' := [vR (4), vR (22), vI (((m + 1 : Nat) : Int)), vI (0), vU]) k_55_7 rfl ?_
      refine r_const k_55_8 ?_
      refine r_istore (L' := [vR (4), vR (22), vI (((m + 1 : Nat) : Int)), vI (0), vI (0)]) k_55_9 rfl ?_
      rw [zval_1] at q1
      exact lp0 C 0 _ (by omega) hw hz F0 q1
    · skip
      intro D hD σ K l hw hz hc hl q1
      obtain ⟨d, rfl⟩ : ∃ d, D = d + 6 := ⟨D - 6, by omega⟩
      have F0 : zfr [2] [2] σ σ := zfr_rf
      refine zC_in rfl ?_
      have lp1 : ∀ (n : Nat) (c : Int) (τ : zM), K τ (some (vI 0)) → zG (d + 5) 56 K 0 zfx (11, [vR (4), vR (22), vI (((m + 1 : Nat) : Int)), vI (0), vI (c)], [], τ) := by
        intro n
        induction n using Nat.strongRecOn with
        | _ n ih =>
        intro c τ hq
        refine r_iload k_56_11 rfl ?_
        refine r_aload k_56_13 rfl ?_
        refine r_getS (v := τ.1 4) k_56_14 ⟨rfl, rfl⟩ rfl ?_
        refine r_ic_ge k_56_17 (fun h17 => ?_) (fun h17 => ?_)
        · skip
          refine r_iload k_56_62 rfl ?_
          refine r_zret k_56_63 (by omega) ?_
          exact hq
        · skip
          refine r_iload k_56_20 rfl ?_
          refine r_if_eq k_56_21 (fun _ => ?_) (fun hz => absurd hz (by decide))
          refine r_iload k_56_62 rfl ?_
          refine r_zret k_56_63 (by omega) ?_
          exact hq
      have lp0 : ∀ (n : Nat) (c : Nat) (τ : zM), c + n = C → zrl τ C law least → zis τ 2 l → zfr [2] [2] σ τ → (∀ υ, zfr [2] [2] σ υ → zis υ 2 l → K υ (some (vI (zb1 (!zex (fun c => zok law least l c && !decide (zval C law least m (l ++ [(c : Int)]) = 1)) n c))))) → zG (d + 5) 56 K 0 zfx (11, [vR (4), vR (22), vI (((m + 1 : Nat) : Int)), vI (1), vI ((c : Int))], [], τ) := by
        intro n
        induction n using Nat.strongRecOn with
        | _ n ih =>
        intro c τ hn W1 hz1 F1 hq
        refine r_iload k_56_11 rfl ?_
        refine r_aload k_56_13 rfl ?_
        refine r_getS (v := C) k_56_14 ⟨rfl, rfl⟩ W1.1 ?_
        refine r_ic_ge k_56_17 (fun h17 => ?_) (fun h17 => ?_)
        · skip
          refine r_iload k_56_62 rfl ?_
          refine r_zret k_56_63 (by omega) ?_
          obtain rfl : n = 0 := by omega
          exact hq _ F1 hz1
        · skip
          refine r_iload k_56_20 rfl ?_
          refine r_if_eq k_56_21 (fun hz => absurd hz (by decide)) (fun _ => ?_)
          refine r_aload k_56_24 rfl ?_
          refine r_aload k_56_25 rfl ?_
          refine r_iload k_56_26 rfl ?_
          refine r_call (as := [vR (4), vR (22), vI ((c : Int))]) (r := []) k_56_28 rfl rfl rfl ?_
          refine v_stands (r := 2) (l := l) (c := (c : Int)) (by decide) hb W1 hz1 hc (by omega) (by omega) (by omega) (fun τ12 f12 z12 g12 => ?_) (fun τ13 f13 z13 g13 => ?_)
          · skip
            have F12 := zfr_2 F1 f12 (by decide) (by decide)
            have W12 := zrl_fr W1 f12 (by decide)
            refine r_if_eq k_56_31 (fun hz => absurd hz (by decide)) (fun _ => ?_)
            refine r_aload k_56_34 rfl ?_
            refine r_aload k_56_35 rfl ?_
            refine r_iload k_56_36 rfl ?_
            refine r_const k_56_37 ?_
            refine r_bin (v := m) k_56_38 (by rw [zb_sub ⟨by omega, by omega⟩]; omega) ?_
            refine r_call (as := [vR (4), vR (22), vI (m)]) (r := []) k_56_39 rfl rfl rfl ?_
            refine ih0.1 (d + 5) (by omega) (l := l ++ [(c : Int)]) W12 z12 (zcol_a hc (by omega) (by omega)) (by rw [zlen1]; omega) (fun τ14 f14 z14 => ?_)
            have F14 := zfr_2 F12 f14 (by decide) (by decide)
            have W14 := zrl_fr W12 f14 (by decide)
            refine r_if_eq k_56_42 (fun h42 => ?_) (fun h42 => ?_)
            · skip
              refine r_const k_56_49 ?_
              refine r_istore (L' := [vR (4), vR (22), vI (((m + 1 : Nat) : Int)), vI (0), vI ((c : Int))]) k_56_50 rfl ?_
              refine r_aload k_56_51 rfl ?_
              refine r_const k_56_52 ?_
              refine r_call (as := [vR (22), vI (1)]) (r := []) k_56_53 rfl rfl rfl ?_
              refine s_cutl (r := 2) (l := l) (m := [(c : Int)]) (by decide) z14 (by rw [zlen1]; omega) rfl (fun τ15 f15 z15 => ?_)
              have F15 := zfr_2 F14 f15 (by decide) (by decide)
              have W15 := zrl_fr W14 f15 (by decide)
              refine r_iinc (v := (c : Int) + 1) (L' := [vR (4), vR (22), vI (((m + 1 : Nat) : Int)), vI (0), vI ((c : Int) + 1)]) k_56_56 rfl (zb_add ⟨by omega, by omega⟩) rfl ?_
              refine r_goto k_56_59 ?_
              obtain ⟨n2, rfl⟩ : ∃ n2, n = n2 + 1 := ⟨n - 1, by omega⟩
              rw [zex_t (by simp only [zok]; rw [decide_eq_true g12, zb1_e.mp h42]; rfl)] at hq
              exact lp1 0 _ _ (hq _ F15 z15)
            · skip
              refine r_const k_56_45 ?_
              refine r_goto k_56_46 ?_
              refine r_istore (L' := [vR (4), vR (22), vI (((m + 1 : Nat) : Int)), vI (1), vI ((c : Int))]) k_56_50 rfl ?_
              refine r_aload k_56_51 rfl ?_
              refine r_const k_56_52 ?_
              refine r_call (as := [vR (22), vI (1)]) (r := []) k_56_53 rfl rfl rfl ?_
              refine s_cutl (r := 2) (l := l) (m := [(c : Int)]) (by decide) z14 (by rw [zlen1]; omega) rfl (fun τ16 f16 z16 => ?_)
              have F16 := zfr_2 F14 f16 (by decide) (by decide)
              have W16 := zrl_fr W14 f16 (by decide)
              refine r_iinc (v := (c : Int) + 1) (L' := [vR (4), vR (22), vI (((m + 1 : Nat) : Int)), vI (1), vI ((c : Int) + 1)]) k_56_56 rfl (zb_add ⟨by omega, by omega⟩) rfl ?_
              refine r_goto k_56_59 ?_
              obtain ⟨n2, rfl⟩ : ∃ n2, n = n2 + 1 := ⟨n - 1, by omega⟩
              rw [zex_f (by simp only [zok]; rw [decide_eq_true g12, zb1_ne.mp h42]; rfl)] at hq
              exact ih n2 (by omega) (c + 1) _ (by omega) W16 z16 F16 hq
          · skip
            have F13 := zfr_2 F1 f13 (by decide) (by decide)
            have W13 := zrl_fr W1 f13 (by decide)
            refine r_if_eq k_56_31 (fun _ => ?_) (fun hz => absurd hz (by decide))
            refine r_const k_56_45 ?_
            refine r_goto k_56_46 ?_
            refine r_istore (L' := [vR (4), vR (22), vI (((m + 1 : Nat) : Int)), vI (1), vI ((c : Int))]) k_56_50 rfl ?_
            refine r_aload k_56_51 rfl ?_
            refine r_const k_56_52 ?_
            refine r_call (as := [vR (22), vI (1)]) (r := []) k_56_53 rfl rfl rfl ?_
            refine s_cutl (r := 2) (l := l) (m := [(c : Int)]) (by decide) z13 (by rw [zlen1]; omega) rfl (fun τ17 f17 z17 => ?_)
            have F17 := zfr_2 F13 f17 (by decide) (by decide)
            have W17 := zrl_fr W13 f17 (by decide)
            refine r_iinc (v := (c : Int) + 1) (L' := [vR (4), vR (22), vI (((m + 1 : Nat) : Int)), vI (1), vI ((c : Int) + 1)]) k_56_56 rfl (zb_add ⟨by omega, by omega⟩) rfl ?_
            refine r_goto k_56_59 ?_
            obtain ⟨n2, rfl⟩ : ∃ n2, n = n2 + 1 := ⟨n - 1, by omega⟩
            rw [zex_f (by simp only [zok]; rw [decide_eq_false g13]; rfl)] at hq
            exact ih n2 (by omega) (c + 1) _ (by omega) W17 z17 F17 hq
      show zG (d + 5) 56 K 0 zfx (0, [vR (4), vR (22), vI (((m + 1 : Nat) : Int)), vU, vU], [], σ)
      refine r_iload k_56_0 rfl ?_
      refine r_if_ge k_56_1 (fun _ => ?_) (fun hz => absurd hz (by omega))
      refine r_const k_56_6 ?_
      refine r_istore (L' := [vR (4), vR (22), vI (((m + 1 : Nat) : Int)), vI (1), vU]) k_56_7 rfl ?_
      refine r_const k_56_8 ?_
      refine r_istore (L' := [vR (4), vR (22), vI (((m + 1 : Nat) : Int)), vI (1), vI (0)]) k_56_9 rfl ?_
      rw [zval_0] at q1
      exact lp0 C 0 _ (by omega) hw hz F0 q1
