/-! sheets: the small methods; drop, sheet, item -/
/-- what stands against taking items of a sheet -/
def zref (ln len lane f n : Int) : Int := if len = -1 then -11 else if ln ≠ lane then -12 else if 0 ≤ f ∧ f + n ≤ len then 0 else -13
def zln (ln v : Int) : Int := if ln = 0 then (Int32.ofInt v).toInt8.toInt32.toInt else if ln = 1 then (Int32.ofInt v).toInt16.toInt32.toInt else v
theorem zln_s {ln v : Int} (h0 : 0 ≤ v) (h4 : v < 4) : zln ln v = v := by
  unfold zln
  rcases (show v = 0 ∨ v = 1 ∨ v = 2 ∨ v = 3 by omega) with rfl | rfl | rfl | rfl <;> (split; decide +kernel; split; decide +kernel; rfl)
theorem zIh_mk {σ τ : zM} {s0 : Nat} (h : zIh σ)
    (o : ∀ s, s ≠ s0 → s < 4 → (τ.1 (15 + 2 * s) = σ.1 (15 + 2 * s) ∧ τ.1 (14 + 2 * s) = σ.1 (14 + 2 * s)) ∧ τ.2 (7 + s) = σ.2 (7 + s) ∧ τ.2 15 s = σ.2 15 s ∧ τ.2 16 s = σ.2 16 s ∧ ∀ k, k < 48 → τ.2 17 (48 * s + k) = σ.2 17 (48 * s + k))
    (m : (-1 ≤ τ.1 (15 + 2 * s0) ∧ τ.1 (15 + 2 * s0) ≤ 48) ∧ τ.2 15 s0 = τ.1 (15 + 2 * s0) ∧ (0 ≤ τ.1 (14 + 2 * s0) ∧ τ.1 (14 + 2 * s0) ≤ 2) ∧ τ.2 16 s0 = τ.1 (14 + 2 * s0) ∧ ∀ k, k < 48 → τ.2 17 (48 * s0 + k) = τ.2 (7 + s0) k) : zIh τ := by
  intro s hs
  by_cases e : s = s0
  · subst e; exact m
  · obtain ⟨⟨o1, o2⟩, o3, o4, o5, o6⟩ := o s e hs
    obtain ⟨h1, h2, h3, h4, h5⟩ := h s hs
    rw [o1, o2, o3, o4, o5]
    exact ⟨h1, h2, h3, h4, fun k hk => (o6 k hk).trans (h5 k hk)⟩
theorem zInv_sh {S A : List Nat} {σ τ : zM} (h : zInv σ) (hf : zfr S A σ τ) (hS : ∀ n ∈ S, (13 < n ∧ n < 22) ∨ n = 2 ∨ n = 3) (hA : ∀ n ∈ A, n = 2 ∨ n = 3 ∨ n = 11 ∨ (6 < n ∧ n < 11) ∨ 14 < n) (hI : zIh τ) : zInv τ := by
  have s : ∀ n, n ≠ 2 → n ≠ 3 → (n < 14 ∨ 21 < n) → n ∉ S := fun n h1 h2 h3 q => by have := hS n q; omega
  have a : ∀ n, n ≠ 2 → n ≠ 3 → n ≠ 11 → (n < 7 ∨ (10 < n ∧ n < 15)) → n ∉ A := fun n h1 h2 h3 h4 q => by have := hA n q; omega
  exact ⟨zIn_fr h.1 hf ⟨s 0 (by decide) (by decide) (by decide), s 4 (by decide) (by decide) (by decide), s 5 (by decide) (by decide) (by decide), s 6 (by decide) (by decide) (by decide), s 10 (by decide) (by decide) (by decide)⟩ ⟨a 0 (by decide) (by decide) (by decide) (by decide), a 4 (by decide) (by decide) (by decide) (by decide), a 12 (by decide) (by decide) (by decide) (by decide)⟩,
    zIk_fr h.2.1 hf ⟨s 12 (by decide) (by decide) (by decide), s 22 (by decide) (by decide) (by decide), s 7 (by decide) (by decide) (by decide), s 8 (by decide) (by decide) (by decide), s 9 (by decide) (by decide) (by decide), s 1 (by decide) (by decide) (by decide), s 11 (by decide) (by decide) (by decide)⟩ ⟨a 1 (by decide) (by decide) (by decide) (by decide), a 5 (by decide) (by decide) (by decide) (by decide), a 13 (by decide) (by decide) (by decide) (by decide)⟩,
    zIt_fr h.2.2.1 hf ⟨s 13 (by decide) (by decide) (by decide), s 23 (by decide) (by decide) (by decide)⟩ ⟨a 6 (by decide) (by decide) (by decide) (by decide), a 14 (by decide) (by decide) (by decide) (by decide)⟩, hI⟩
theorem s_page {d : Nat} {σ : zM} {K : zM → Option zV → Prop} {v : Int} (q1 : ∀ s : Nat, v = s → s < 4 → K σ (some (vR (zshp s)))) (q2 : ¬ (0 ≤ v ∧ v < 4) → K σ (some vN)) : zC (d + 1) 75 [vR (0), vI (v)] σ K := by
  refine zC_in rfl ?_
  show zG (d) 75 K 0 zfx (0, [vR (0), vI (v)], [], σ)
  refine r_iload k_75_0 rfl ?_
  refine r_if_lt k_75_1 (fun h1 => ?_) (fun h1 => ?_)
  · skip
    refine r_anull k_75_22 ?_
    refine r_aretN k_75_23 ?_
    exact q2 (by omega)
  · skip
    refine r_iload k_75_4 rfl ?_
    refine r_aload k_75_5 rfl ?_
    refine r_getR (q := 13) k_75_6 ⟨rfl, rfl⟩ ?_
    refine r_alen4 13 k_75_9 (by decide) ?_
    refine r_ic_ge k_75_10 (fun h10 => ?_) (fun h10 => ?_)
    · skip
      refine r_anull k_75_22 ?_
      refine r_aretN k_75_23 ?_
      exact q2 (by omega)
    · skip
      refine r_aload k_75_13 rfl ?_
      refine r_getR (q := 13) k_75_14 ⟨rfl, rfl⟩ ?_
      refine r_iload k_75_17 rfl ?_
      refine r_page k_75_18 ⟨by omega, by omega⟩ ?_
      refine r_goto k_75_19 ?_
      refine r_aret k_75_23 ?_
      exact q1 _ (by omega) (by omega)
theorem s_lane {d : Nat} {σ : zM} {K : zM → Option zV → Prop} {v : Int} (q1 : 0 ≤ v ∧ v ≤ 2 → K σ (some (vI 1))) (q2 : ¬ (0 ≤ v ∧ v ≤ 2) → K σ (some (vI 0))) : zC (d + 1) 76 [vI (v)] σ K := by
  refine zC_in rfl ?_
  show zG (d) 76 K 0 zfx (0, [vI (v)], [], σ)
  refine r_iload k_76_0 rfl ?_
  refine r_if_lt k_76_1 (fun h1 => ?_) (fun h1 => ?_)
  · skip
    refine r_const k_76_13 ?_
    refine r_zret k_76_14 (by omega) ?_
    exact q2 (by omega)
  · skip
    refine r_iload k_76_4 rfl ?_
    refine r_const k_76_5 ?_
    refine r_ic_gt k_76_6 (fun h6 => ?_) (fun h6 => ?_)
    · skip
      refine r_const k_76_13 ?_
      refine r_zret k_76_14 (by omega) ?_
      exact q2 (by omega)
    · skip
      refine r_const k_76_9 ?_
      refine r_goto k_76_10 ?_
      refine r_zret k_76_14 (by omega) ?_
      exact q1 (by omega)
theorem s_refs {d : Nat} {σ : zM} {K : zM → Option zV → Prop} {s : Nat} (hs : s < 4) {lane f n : Int} (hn : 0 ≤ n) (hb : -1 ≤ σ.1 (15 + 2 * s) ∧ σ.1 (15 + 2 * s) ≤ 48) (q1 : ¬ (0 ≤ lane ∧ lane ≤ 2) → K σ (some (vI (-1)))) (q2 : 0 ≤ lane → lane ≤ 2 → K σ (some (vI (zref (σ.1 (14 + 2 * s)) (σ.1 (15 + 2 * s)) lane f n)))) : zC (d + 1 + 1) 74 [vR (zshp s), vI (lane), vI (f), vI (n)] σ K := by
  refine zC_in rfl ?_
  show zG (d + 1) 74 K 0 zfx (0, [vR (zshp s), vI (lane), vI (f), vI (n)], [], σ)
  refine r_aload k_74_0 rfl ?_
  refine r_null k_74_1 ?_
  refine r_iload k_74_4 rfl ?_
  refine r_call (as := [vI (lane)]) (r := []) k_74_5 rfl rfl rfl ?_
  refine s_lane (fun g5 => ?_) (fun g5 => ?_)
  · skip
    refine r_if_ne k_74_8 (fun _ => ?_) (fun hz => absurd hz (by decide))
    refine r_aload k_74_13 rfl ?_
    refine r_getS (v := σ.1 ((15 + 2 * s))) k_74_14 (zsh_2 hs) rfl ?_
    refine r_const k_74_17 ?_
    refine r_ic_ne k_74_18 (fun h18 => ?_) (fun h18 => ?_)
    · skip
      refine r_aload k_74_24 rfl ?_
      refine r_getS (v := σ.1 ((14 + 2 * s))) k_74_25 (zsh_1 hs) rfl ?_
      refine r_iload k_74_28 rfl ?_
      refine r_ic_eq k_74_29 (fun h29 => ?_) (fun h29 => ?_)
      · skip
        refine r_aload k_74_35 rfl ?_
        refine r_iload k_74_36 rfl ?_
        refine r_iload k_74_37 rfl ?_
        refine r_call (as := [vR (zshp s), vI (f), vI (n)]) (r := []) k_74_38 rfl (zrcv_o rfl (zsh_c hs)) rfl ?_
        refine s_reach hs hb (fun g38 => ?_) (fun g38 => ?_)
        · skip
          refine r_if_eq k_74_41 (fun hz => absurd hz (by decide)) (fun _ => ?_)
          refine r_const k_74_44 ?_
          refine r_goto k_74_45 ?_
          refine r_iret k_74_50 ?_
          exact zKe (q2 (by omega) (by omega)) (by unfold zref; (repeat' split) <;> omega)
        · skip
          refine r_if_eq k_74_41 (fun _ => ?_) (fun hz => absurd hz (by decide))
          refine r_const k_74_48 ?_
          refine r_iret k_74_50 ?_
          exact zKe (q2 (by omega) (by omega)) (by unfold zref; (repeat' split) <;> omega)
      · skip
        refine r_const k_74_32 ?_
        refine r_iret k_74_34 ?_
        exact zKe (q2 (by omega) (by omega)) (by unfold zref; (repeat' split) <;> omega)
    · skip
      refine r_const k_74_21 ?_
      refine r_iret k_74_23 ?_
      exact zKe (q2 (by omega) (by omega)) (by unfold zref; (repeat' split) <;> omega)
  · skip
    refine r_if_ne k_74_8 (fun hz => absurd hz (by decide)) (fun _ => ?_)
    refine r_const k_74_11 ?_
    refine r_iret k_74_12 ?_
    exact q1 (by omega)
theorem s_refn {d : Nat} {σ : zM} {K : zM → Option zV → Prop} {lane f n : Int} (q1 : K σ (some (vI (-1)))) : zC (d + 1 + 1) 74 [vN, vI (lane), vI (f), vI (n)] σ K := by
  refine zC_in rfl ?_
  show zG (d + 1) 74 K 0 zfx (0, [vN, vI (lane), vI (f), vI (n)], [], σ)
  refine r_aloadN k_74_0 rfl ?_
  refine r_nullN k_74_1 ?_
  refine r_const k_74_11 ?_
  refine r_iret k_74_12 ?_
  exact q1
theorem y_isSheet {d : Nat} {σ : zM} {K : zM → Option zV → Prop} {v u : Int} (q1 : (0 ≤ v ∧ v < 4) ∧ 0 ≤ u ∧ u ≤ 2 → K σ (some (vI 1))) (q2 : ¬ ((0 ≤ v ∧ v < 4) ∧ 0 ≤ u ∧ u ≤ 2) → K σ (some (vI 0))) : zC (d + 1 + 1) 119 [vI (v), vI (u)] σ K := by
  refine zC_in rfl ?_
  show zG (d + 1) 119 K 0 zfx (0, [vI (v), vI (u)], [], σ)
  refine r_iload k_119_0 rfl ?_
  refine r_cnv (w := vL (v)) k_119_1 rfl ?_
  refine r_lconst k_119_2 ?_
  refine r_lconst k_119_3 ?_
  refine r_call (as := [vL (v), vL (0), vL (3)]) (r := []) k_119_6 rfl rfl rfl ?_
  refine t_in (fun g6 => ?_) (fun g6 => ?_)
  · skip
    refine r_if_eq k_119_9 (fun hz => absurd hz (by decide)) (fun _ => ?_)
    refine r_iload k_119_12 rfl ?_
    refine r_cnv (w := vL (u)) k_119_13 rfl ?_
    refine r_lconst k_119_14 ?_
    refine r_lconst k_119_15 ?_
    refine r_call (as := [vL (u), vL (0), vL (2)]) (r := []) k_119_18 rfl rfl rfl ?_
    refine t_in (fun g18 => ?_) (fun g18 => ?_)
    · skip
      refine r_if_eq k_119_21 (fun hz => absurd hz (by decide)) (fun _ => ?_)
      refine r_const k_119_24 ?_
      refine r_goto k_119_25 ?_
      refine r_zret k_119_29 (by omega) ?_
      exact q1 (by omega)
    · skip
      refine r_if_eq k_119_21 (fun _ => ?_) (fun hz => absurd hz (by decide))
      refine r_const k_119_28 ?_
      refine r_zret k_119_29 (by omega) ?_
      exact q2 (by omega)
  · skip
    refine r_if_eq k_119_9 (fun _ => ?_) (fun hz => absurd hz (by decide))
    refine r_const k_119_28 ?_
    refine r_zret k_119_29 (by omega) ?_
    exact q2 (by omega)
theorem y_found {d : Nat} {σ : zM} {K : zM → Option zV → Prop} {s : Nat} {sh lane f n : Int} (hsh : sh = s) (hs : s < 4) (hf1 : -2147483648 ≤ f) (hf2 : f < 2147483648) (hn : 0 ≤ n ∧ n ≤ 2147483647) (hb : -1 ≤ σ.2 15 s ∧ σ.2 15 s ≤ 48) (q1 : K σ (some (vI (zref (σ.2 16 s) (σ.2 15 s) lane f n)))) : zC (d + 1) 120 [vR (27), vI (sh), vI (lane), vI (f), vI (n)] σ K := by
  refine zC_in rfl ?_
  show zG (d) 120 K 0 zfx (0, [vR (27), vI (sh), vI (lane), vI (f), vI (n)], [], σ)
  refine r_aload k_120_0 rfl ?_
  refine r_getR (q := 31) k_120_1 ⟨rfl, rfl⟩ ?_
  refine r_iload k_120_4 rfl ?_
  refine r_iald (v := (σ.2 15 s)) k_120_5 ⟨rfl, rfl⟩ ⟨by omega, by omega⟩ (by rw [show (sh : Int).toNat = s by omega]) ?_
  refine r_if_ge k_120_6 (fun h6 => ?_) (fun h6 => ?_)
  · skip
    refine r_aload k_120_14 rfl ?_
    refine r_getR (q := 32) k_120_15 ⟨rfl, rfl⟩ ?_
    refine r_iload k_120_18 rfl ?_
    refine r_iald (v := (σ.2 16 s)) k_120_19 ⟨rfl, rfl⟩ ⟨by omega, by omega⟩ (by rw [show (sh : Int).toNat = s by omega]) ?_
    refine r_iload k_120_20 rfl ?_
    refine r_ic_eq k_120_21 (fun h21 => ?_) (fun h21 => ?_)
    · skip
      refine r_iload k_120_29 rfl ?_
      refine r_if_lt k_120_30 (fun h30 => ?_) (fun h30 => ?_)
      · skip
        refine r_const k_120_50 ?_
        refine r_goto k_120_52 ?_
        refine r_iret k_120_56 ?_
        exact zKe q1 (by unfold zref; (repeat' split) <;> omega)
      · skip
        refine r_iload k_120_33 rfl ?_
        refine r_cnv (w := vL (f)) k_120_34 rfl ?_
        refine r_iload k_120_35 rfl ?_
        refine r_cnv (w := vL (n)) k_120_37 rfl ?_
        refine r_lbin (v := f + n) k_120_38 (zl_add ⟨by omega, by omega⟩) ?_
        refine r_aload k_120_39 rfl ?_
        refine r_getR (q := 31) k_120_40 ⟨rfl, rfl⟩ ?_
        refine r_iload k_120_43 rfl ?_
        refine r_iald (v := (σ.2 15 s)) k_120_44 ⟨rfl, rfl⟩ ⟨by omega, by omega⟩ (by rw [show (sh : Int).toNat = s by omega]) ?_
        refine r_cnv (w := vL ((σ.2 15 s))) k_120_45 rfl ?_
        refine r_lcmp (v := zcmp (f + n) ((σ.2 15 s))) k_120_46 rfl ?_
        refine r_if_le k_120_47 (fun h47 => ?_) (fun h47 => ?_)
        · skip
          replace h47 := zcmp_le.mp h47
          refine r_const k_120_55 ?_
          refine r_iret k_120_56 ?_
          exact zKe q1 (by unfold zref; (repeat' split) <;> omega)
        · skip
          replace h47 := zcmp_gt.mp h47
          refine r_const k_120_50 ?_
          refine r_goto k_120_52 ?_
          refine r_iret k_120_56 ?_
          exact zKe q1 (by unfold zref; (repeat' split) <;> omega)
    · skip
      refine r_const k_120_24 ?_
      refine r_goto k_120_26 ?_
      refine r_iret k_120_56 ?_
      exact zKe q1 (by unfold zref; (repeat' split) <;> omega)
  · skip
    refine r_const k_120_9 ?_
    refine r_goto k_120_11 ?_
    refine r_iret k_120_56 ?_
    exact zKe q1 (by unfold zref; (repeat' split) <;> omega)
theorem x_drop {d : Nat} {σ : zM} {K : zM → Option zV → Prop} (hI : zIh σ) {v : Int} (q1 : ¬ (0 ≤ v ∧ v < 4) → K σ (some (vI (-1)))) (q2 : ∀ s : Nat, v = s → s < 4 → σ.1 (15 + 2 * s) = -1 → K σ (some (vI (-11)))) (q3 : ∀ s : Nat, v = s → s < 4 → σ.1 (15 + 2 * s) ≠ -1 → K (zsetS σ (15 + 2 * s) (-1)) (some (vI (σ.1 (15 + 2 * s))))) : zC (d + 1 + 1) 71 [vR (0), vI (v)] σ K := by
  refine zC_in rfl ?_
  show zG (d + 1) 71 K 0 zfx (0, [vR (0), vI (v), vU, vU], [], σ)
  refine r_aload k_71_0 rfl ?_
  refine r_iload k_71_1 rfl ?_
  refine r_call (as := [vR (0), vI (v)]) (r := []) k_71_2 rfl rfl rfl ?_
  refine s_page (fun s e2 hs => ?_) (fun g2 => ?_)
  · skip
    obtain ⟨b1, b2, b3, b4, b5⟩ := hI s hs
    refine r_astore (L' := [vR (0), vI (v), vR (zshp s), vU]) k_71_5 rfl ?_
    refine r_aload k_71_6 rfl ?_
    refine r_nonnull k_71_7 ?_
    refine r_aload k_71_12 rfl ?_
    refine r_getS (v := σ.1 ((15 + 2 * s))) k_71_13 (zsh_2 hs) rfl ?_
    refine r_const k_71_16 ?_
    refine r_ic_ne k_71_17 (fun h17 => ?_) (fun h17 => ?_)
    · skip
      refine r_aload k_71_23 rfl ?_
      refine r_getS (v := σ.1 ((15 + 2 * s))) k_71_24 (zsh_2 hs) rfl ?_
      refine r_istore (L' := [vR (0), vI (v), vR (zshp s), vI (σ.1 ((15 + 2 * s)))]) k_71_27 rfl ?_
      refine r_aload k_71_28 rfl ?_
      refine r_const k_71_29 ?_
      refine r_putS k_71_30 (zsh_2 hs) ?_
      refine r_iload k_71_33 rfl ?_
      refine r_iret k_71_34 ?_
      exact q3 s (by omega) hs (by omega)
    · skip
      refine r_const k_71_20 ?_
      refine r_iret k_71_22 ?_
      exact q2 s (by omega) hs (by omega)
  · skip
    refine r_astoreN (L' := [vR (0), vI (v), vN, vU]) k_71_5 rfl ?_
    refine r_aloadN k_71_6 rfl ?_
    refine r_nonnullN k_71_7 ?_
    refine r_const k_71_10 ?_
    refine r_iret k_71_11 ?_
    exact q1 (by omega)
theorem y_drop {d : Nat} {σ : zM} {K : zM → Option zV → Prop} {v : Int} (q1 : ¬ (0 ≤ v ∧ v < 4) → K σ (some (vI (-1)))) (q2 : ∀ s : Nat, v = s → s < 4 → σ.2 15 s < 0 → K σ (some (vI (-11)))) (q3 : ∀ s : Nat, v = s → s < 4 → 0 ≤ σ.2 15 s → K (zsetA σ 15 (zup (σ.2 15) s (-1))) (some (vI (σ.2 15 s)))) : zC (d + 1 + 1) 126 [vR (27), vI (v)] σ K := by
  refine zC_in rfl ?_
  show zG (d + 1) 126 K 0 zfx (0, [vR (27), vI (v), vU], [], σ)
  refine r_iload k_126_0 rfl ?_
  refine r_cnv (w := vL (v)) k_126_1 rfl ?_
  refine r_lconst k_126_2 ?_
  refine r_lconst k_126_3 ?_
  refine r_call (as := [vL (v), vL (0), vL (3)]) (r := []) k_126_6 rfl rfl rfl ?_
  refine t_in (fun g6 => ?_) (fun g6 => ?_)
  · skip
    refine r_if_ne k_126_9 (fun _ => ?_) (fun hz => absurd hz (by decide))
    refine r_aload k_126_14 rfl ?_
    refine r_getR (q := 31) k_126_15 ⟨rfl, rfl⟩ ?_
    refine r_iload k_126_18 rfl ?_
    refine r_iald (v := σ.2 15 (v : Int).toNat) k_126_19 ⟨rfl, rfl⟩ ⟨by omega, by omega⟩ rfl ?_
    refine r_if_ge k_126_20 (fun h20 => ?_) (fun h20 => ?_)
    · skip
      refine r_aload k_126_26 rfl ?_
      refine r_getR (q := 31) k_126_27 ⟨rfl, rfl⟩ ?_
      refine r_iload k_126_30 rfl ?_
      refine r_iald (v := σ.2 15 (v : Int).toNat) k_126_31 ⟨rfl, rfl⟩ ⟨by omega, by omega⟩ rfl ?_
      refine r_istore (L' := [vR (27), vI (v), vI (σ.2 15 (v : Int).toNat)]) k_126_32 rfl ?_
      refine r_aload k_126_33 rfl ?_
      refine r_getR (q := 31) k_126_34 ⟨rfl, rfl⟩ ?_
      refine r_iload k_126_37 rfl ?_
      refine r_const k_126_38 ?_
      refine r_iast k_126_39 ⟨rfl, rfl⟩ ⟨by omega, by omega⟩ ?_
      refine r_iload k_126_40 rfl ?_
      refine r_iret k_126_41 ?_
      exact q3 v.toNat (by omega) (by omega) (by omega)
    · skip
      refine r_const k_126_23 ?_
      refine r_iret k_126_25 ?_
      exact q2 v.toNat (by omega) (by omega) (by omega)
  · skip
    refine r_if_ne k_126_9 (fun hz => absurd hz (by decide)) (fun _ => ?_)
    refine r_const k_126_12 ?_
    refine r_iret k_126_13 ?_
    exact q1 (by omega)
theorem p_drop {d : Nat} {σ : zM} (h : zInv σ) {v : Int} : zC (d + 41) 71 [vR 0, vI v] σ (fun σ1 r1 => zC (d + 5) 126 [vR 27, vI v] σ1 (zpq σ1 r1)) := by
  have hI := h.2.2.2
  refine x_drop (d := d + 39) hI (fun q => ?_) (fun s e hs g => ?_) (fun s e hs g => ?_)
  · exact y_drop (d := d + 3) (fun _ => ⟨⟨_, rfl, rfl⟩, h⟩) (fun s e hs => absurd ⟨by omega, by omega⟩ q) (fun s e hs => absurd ⟨by omega, by omega⟩ q)
  · obtain ⟨b1, b2, b3, b4, b5⟩ := hI s hs
    exact y_drop (d := d + 3) (fun q => absurd ⟨by omega, by omega⟩ q) (fun s2 e2 hs2 g2 => ⟨⟨_, rfl, rfl⟩, h⟩) (fun s2 e2 hs2 g2 => absurd g2 (by rw [show s2 = s by omega]; omega))
  · obtain ⟨b1, b2, b3, b4, b5⟩ := hI s hs
    refine y_drop (d := d + 3) (fun q => absurd ⟨by omega, by omega⟩ q) (fun s2 e2 hs2 g2 => absurd g2 (by rw [show s2 = s by omega]; show ¬ σ.2 15 s < 0; omega)) (fun s2 e2 hs2 g2 => ⟨⟨_, rfl, ?_⟩, ?_⟩)
    · obtain rfl : s2 = s := by omega
      rw [← b2]; rfl
    · obtain rfl : s2 = s := by omega
      have F : zfr [15 + 2 * s2] [15] σ (zsetA (zsetS σ (15 + 2 * s2) (-1)) 15 (zup (σ.2 15) s2 (-1))) := zfr_A (zfr_S zfr_rf (by simp)) (by simp)
      refine zInv_sh h F (fun n hn => by rw [List.mem_singleton.mp hn]; omega) (fun n hn => by rw [List.mem_singleton.mp hn]; omega) (zIh_mk (s0 := s2) hI (fun s hs3 hs4 => ⟨⟨?_, ?_⟩, ?_, ?_, ?_, fun k hk => ?_⟩) ⟨?_, ?_, ?_, ?_, fun k hk => ?_⟩)
      · exact F.1 _ (by simp; omega)
      · exact F.1 _ (by simp; omega)
      · exact F.2 _ (by simp; omega)
      · rw [zA_2, zup_n hs3]; rfl
      · exact congrFun (F.2 16 (by decide)) s
      · exact congrFun (F.2 17 (by decide)) _
      · rw [zA_1, zS_1]; decide
      · rw [zA_2, zup_1, zA_1, zS_1]
      · rw [zA_1, zS_n (by omega)]; exact b3
      · rw [zA_1, zS_n (by omega)]; exact b4
      · exact (congrFun (F.2 17 (by decide)) _).trans ((b5 k hk).trans (congrFun (F.2 (7 + s2) (by simp; omega)) k).symm)
