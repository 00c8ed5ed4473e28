/-! storm: the class -/
def zris (g : Nat → Int) (len n : Nat) : Prop := (∀ j, j < n → 0 ≤ g j ∧ g j < (len : Int)) ∧ ∀ j, j + 1 < n → g j < g (j + 1)
theorem zris_P {g : Nat → Int} {len n : Nat} (h : zris g len n) : ∃ P : Nat → Nat, (∀ j, j < n → g j = (P j : Int)) ∧ (∀ a b, a < b → b < n → P a < P b) ∧ ∀ j, j < n → P j < len := by
  have hr : ∀ a b, a < b → b < n → g a < g b := by
    intro a b hab
    induction b with
    | zero => omega
    | succ b ih =>
      intro hb
      have h1 := h.2 b hb
      by_cases e : a = b
      · rw [e]; exact h1
      · have := ih (by omega) (by omega); omega
  refine ⟨fun j => (g j).toNat, fun j hj => ?_, fun a b hab hb => ?_, fun j hj => ?_⟩
  · have := h.1 j hj
    show g j = (((g j).toNat : Nat) : Int)
    omega
  · have h1 := h.1 a (by omega); have h2 := h.1 b hb; have := hr a b hab hb
    show (g a).toNat < (g b).toNat
    omega
  · have := h.1 j hj
    show (g j).toNat < len
    omega
theorem zmc_congr {C : Nat} {law least : Int} {P Q : Nat → Nat} {n : Nat} (h : ∀ j, j < n → P j = Q j) : ∀ (j k : Nat) (l : List Int), j + k = n → zmc C law least P n j k l = zmc C law least Q n j k l
  | 0, _, _, _ => rfl
  | j + 1, k, l, e => by
    rw [zmc, zmc]
    have en : znxt P n l.length k = znxt Q n l.length k := by
      unfold znxt
      by_cases c : k + 1 < n
      · rw [if_pos c, if_pos c, h _ c]
      · rw [if_neg c, if_neg c]
    rw [en, h k (by omega)]
    exact zmcC_congr (fun _ => rfl) (fun c => zmc_congr h j (k + 1) _ (by omega)) C 0
theorem zsa_congr {C : Nat} {law least : Int} {P Q : Nat → Nat} {n : Nat} {l : List Int} (hn : 1 ≤ n) (h : ∀ j, j < n → P j = Q j) : zsa C law least P n l = zsa C law least Q n l := by
  unfold zsa
  rw [h 0 (by omega), zmc_congr h n 0 l (by omega)]
/-- the answer out of ways counted, the first one's colour, and the ways still to come -/
def zwans (i : Int) (P : Nat → Nat) (u : Nat) (f : Int) (L : List (List Int)) : Int := if i < 0 then (u : Int) + (L.length : Int) else if u ≠ 0 then f else match L with | [] => -4 | q :: _ => zlf q (P i.toNat)
theorem v_wayse {d : Nat} {σ : zM} {K : zM → Option zV → Prop} {C : Nat} {law least : Int} {P : Nat → Nat} {N : Nat} {l : List Int} {x : Int} (hx : x = N) (hb : zbd C law least) (hN4 : N ≤ 4) (hmon : ∀ a b, a < b → b < N → P a < P b) (hw : zrl σ C law least) (hz : zis σ 2 l) (hy : zis σ 3 []) (hc : zcol l) (h0 : 0 < l.length) (hl : l.length ≤ 70) (hpl : ∀ i, i < N → P i < l.length) (ha : ∀ i, i < N → σ.2 11 i = (P i : Int)) (q1 : ∀ υ, zfr [2, 3] [2, 3] σ υ → zis υ 3 (zfb [] (zmc C law least P N N 0 l)) → K υ (some (vI (((zmc C law least P N N 0 l).length : Nat))))) : zC (d + 10) 67 [vR 4, vR 22, vR 26, vI x, vI 0, vR 24] σ K := by
  subst hx
  exact v_ways hb hN4 hmon N (d + 10) 0 (by omega) (by omega) hw hz hy hc h0 hl hpl ha (fun υ l2 f _ _ _ y => q1 υ f y)
theorem s_lost {d : Nat} {σ : zM} {K : zM → Option zV → Prop} {C : Nat} {law least draw : Int} {l : List Int} {p : Nat → Int} (hg : zgd C law least draw l p) (hx : zXn σ C law least draw l p) {s F N : Nat} {f n : Int} (hs : s < 4) (hF : f = F) (hN : n = N) (hN4 : N ≤ 4) (hFN : F + N ≤ 48) (q1 : zris (fun j => σ.2 (7 + s) (F + j)) l.length N → ∀ τ, zfr [] [11] σ τ → (∀ j, j < N → τ.2 11 j = σ.2 (7 + s) (F + j)) → K τ (some (vI 1))) (q2 : ¬ zris (fun j => σ.2 (7 + s) (F + j)) l.length N → ∀ τ, zfr [] [11] σ τ → K τ (some (vI 0))) : zC (d + 2 + 1) 66 [vR (0), vR (zshp s), vI (f), vI (n)] σ K := by
  have hl := hg.2.2.1
  have hb := hg.1
  have hC := hg.1.1
  have hC4 := hg.1.2.1
  refine zC_in rfl ?_
  have lp : ∀ (m : Nat) (k : Nat) (b : Int) (τ : zM), N - k = m → k ≤ N → zfr [] [11] σ τ → (∀ j, j < k → τ.2 11 j = σ.2 (7 + s) (F + j)) → ((∀ j, j < k → 0 ≤ σ.2 (7 + s) (F + j) ∧ σ.2 (7 + s) (F + j) < (l.length : Int)) ∧ ∀ j, j + 1 < k → σ.2 (7 + s) (F + j) < σ.2 (7 + s) (F + (j + 1))) → (k = 0 → b = -1) → (0 < k → b = σ.2 (7 + s) (F + (k - 1))) → zG (d + 2) 66 K 0 zfx (6, [vR (0), vR (zshp s), vI (f), vI (n), vI (b), vI ((k : Int)), vU], [], τ) := by
    intro m
    induction m using Nat.strongRecOn with
    | _ m ih =>
    intro k b τ hm g1 hf ha hr hb0 hb1
    refine r_iload k_66_6 rfl ?_
    refine r_iload k_66_8 rfl ?_
    refine r_ic_ge k_66_9 (fun h9 => ?_) (fun h9 => ?_)
    · skip
      refine r_const k_66_75 ?_
      refine r_zret k_66_76 (by omega) ?_
      have ek : k = N := by omega
      rw [ek] at ha hr
      exact q1 ⟨fun j hj => hr.1 j (by omega), fun j hj => hr.2 j (by omega)⟩ _ hf (fun j hj => ha j (by omega))
    · skip
      refine r_iload k_66_12 rfl ?_
      refine r_aload k_66_14 rfl ?_
      refine r_getR (q := 26) k_66_15 ⟨rfl, rfl⟩ ?_
      refine r_alen (n := 4) (g := 11) k_66_18 ⟨rfl, rfl⟩ ?_
      refine r_ic_ge k_66_19 (fun h19 => ?_) (fun h19 => ?_)
      · skip
        refine r_const k_66_75 ?_
        refine r_zret k_66_76 (by omega) ?_
        exfalso; omega
      · skip
        refine r_aload k_66_22 rfl ?_
        refine r_iload k_66_23 rfl ?_
        refine r_iload k_66_24 rfl ?_
        refine r_bin (v := f + ((k : Int))) k_66_26 (zb_add ⟨by omega, by omega⟩) ?_
        refine r_call (as := [vR (zshp s), vI (f + ((k : Int)))]) (r := []) k_66_27 rfl (zrcv_o rfl (zsh_c hs)) rfl ?_
        refine s_sat hs (fun _ _ => ?_) (fun q => by omega)
        rw [hf.2 (7 + s) (by simp; omega), show (f + (k : Int)).toNat = F + k by omega]
        refine r_istore (L' := [vR (0), vR (zshp s), vI (f), vI (n), vI (b), vI ((k : Int)), vI ((σ.2 (7 + s) (F + k)))]) k_66_30 rfl ?_
        refine r_iload k_66_32 rfl ?_
        refine r_iload k_66_34 rfl ?_
        refine r_ic_le k_66_36 (fun h36 => ?_) (fun h36 => ?_)
        · skip
          refine r_const k_66_54 ?_
          refine r_zret k_66_55 (by omega) ?_
          refine q2 (fun q => ?_) _ hf
          have h1 := q.1 k (by omega)
          dsimp only at h1
          by_cases k0 : k = 0
          · have := hb0 k0; omega
          · have h2 := hb1 (by omega)
            have h3 := q.2 (k - 1) (by omega)
            dsimp only at h3
            rw [show k - 1 + 1 = k by omega] at h3
            omega
        · skip
          refine r_aload k_66_39 rfl ?_
          refine r_getR (q := 1) k_66_40 ⟨rfl, rfl⟩ ?_
          refine r_getR (q := 2) k_66_43 ⟨rfl, rfl⟩ ?_
          refine r_iload k_66_46 rfl ?_
          refine r_call (as := [vR (2), vI ((σ.2 (7 + s) (F + k)))]) (r := []) k_66_48 rfl rfl rfl ?_
          have e0 : τ.1 0 = (l.length : Int) := (hf.1 0 (by decide)).trans hx.2.1.1
          refine s_has (r := 0) (by decide) (fun g48 e48 => ?_) (fun g48 => ?_)
          · skip
            rw [e0] at e48
            refine r_if_ne k_66_51 (fun _ => ?_) (fun hz => absurd hz (by decide))
            refine r_aload k_66_56 rfl ?_
            refine r_getR (q := 26) k_66_57 ⟨rfl, rfl⟩ ?_
            refine r_iload k_66_60 rfl ?_
            refine r_iload k_66_62 rfl ?_
            refine r_iast k_66_64 ⟨rfl, rfl⟩ ⟨by omega, by omega⟩ ?_
            refine r_iload k_66_65 rfl ?_
            refine r_istore (L' := [vR (0), vR (zshp s), vI (f), vI (n), vI ((σ.2 (7 + s) (F + k))), vI ((k : Int)), vI ((σ.2 (7 + s) (F + k)))]) k_66_67 rfl ?_
            refine r_iinc (v := (k : Int) + 1) (L' := [vR (0), vR (zshp s), vI (f), vI (n), vI ((σ.2 (7 + s) (F + k))), vI ((k : Int) + 1), vI ((σ.2 (7 + s) (F + k)))]) k_66_69 rfl (zb_add ⟨by omega, by omega⟩) rfl ?_
            refine r_goto k_66_72 ?_
            refine r_cut (L' := [vR (0), vR (zshp s), vI (f), vI (n), vI ((σ.2 (7 + s) (F + k))), vI ((k : Int) + 1), vU]) 6 rfl ?_
            have hkk : k = 0 ∨ b = σ.2 (7 + s) (F + (k - 1)) := by
              by_cases k0 : k = 0
              · exact Or.inl k0
              · exact Or.inr (hb1 (by omega))
            refine ih _ (by omega) (k + 1) _ _ rfl (by omega) (zfr_A hf (by decide)) (fun j hj => ?_) ⟨fun j hj => ?_, fun j hj => ?_⟩ (fun q => absurd q (by omega)) (fun _ => by rw [show k + 1 - 1 = k by omega])
            · rw [zA_2, show ((k : Nat) : Int).toNat = k by omega]
              by_cases e : j = k
              · subst e; exact zup_1 _ _ _
              · rw [zup_n e]; exact ha j (by omega)
            · by_cases e : j = k
              · subst e; omega
              · exact hr.1 j (by omega)
            · by_cases e : j + 1 = k
              · rcases hkk with q | q
                · omega
                · rw [show k - 1 = j by omega] at q
                  rw [e]; omega
              · exact hr.2 j (by omega)
          · skip
            rw [e0] at g48
            refine r_if_ne k_66_51 (fun hz => absurd hz (by decide)) (fun _ => ?_)
            refine r_const k_66_54 ?_
            refine r_zret k_66_55 (by omega) ?_
            refine q2 (fun q => ?_) _ hf
            have h1 := q.1 k (by omega)
            dsimp only at h1
            by_cases k0 : k = 0
            · have := hb0 k0; omega
            · have h2 := hb1 (by omega)
              have h3 := q.2 (k - 1) (by omega)
              dsimp only at h3
              rw [show k - 1 + 1 = k by omega] at h3
              omega
  show zG (d + 2) 66 K 0 zfx (0, [vR (0), vR (zshp s), vI (f), vI (n), vU, vU, vU], [], σ)
  refine r_const k_66_0 ?_
  refine r_istore (L' := [vR (0), vR (zshp s), vI (f), vI (n), vI (-1), vU, vU]) k_66_1 rfl ?_
  refine r_const k_66_3 ?_
  refine r_istore (L' := [vR (0), vR (zshp s), vI (f), vI (n), vI (-1), vI (0), vU]) k_66_4 rfl ?_
  exact lp _ 0 (-1) σ rfl (by omega) zfr_rf (fun j hj => absurd hj (Nat.not_lt_zero _)) ⟨fun j hj => absurd hj (Nat.not_lt_zero _), fun j hj => absurd hj (Nat.not_lt_zero _)⟩ (fun _ => rfl) (fun q => absurd q (by omega))
theorem x_storm {d : Nat} {σ : zM} {K : zM → Option zV → Prop} {C : Nat} {law least draw : Int} {l : List Int} {p : Nat → Int} (hg : zgd C law least draw l p) (hx : zXn σ C law least draw l p) (hI : zIh σ) {sh ln f n i : Int} (q1 : ¬ ((0 ≤ sh ∧ sh < 4) ∧ (0 ≤ ln ∧ ln ≤ 2) ∧ (1 ≤ n ∧ n ≤ 4) ∧ -1 ≤ i ∧ i < n) → K σ (some (vI (-1)))) (q2 : ∀ s : Nat, sh = s → s < 4 → 0 ≤ ln → ln ≤ 2 → 1 ≤ n → n ≤ 4 → -1 ≤ i → i < n → (zref (σ.1 (14 + 2 * s)) (σ.1 (15 + 2 * s)) ln f n) ≠ 0 → K σ (some (vI (zref (σ.1 (14 + 2 * s)) (σ.1 (15 + 2 * s)) ln f n)))) (q3 : ∀ s F N : Nat, sh = s → s < 4 → 0 ≤ ln → ln ≤ 2 → 1 ≤ n → n ≤ 4 → -1 ≤ i → i < n → (zref (σ.1 (14 + 2 * s)) (σ.1 (15 + 2 * s)) ln f n) = 0 → f = F → n = N → ¬ zris (fun j => σ.2 (7 + s) (F + j)) l.length N → ∀ τ, zfr [2, 3] [2, 3, 11] σ τ → K τ (some (vI (-2)))) (q4 : ∀ (s F N : Nat) (P : Nat → Nat), sh = s → s < 4 → 0 ≤ ln → ln ≤ 2 → 1 ≤ n → n ≤ 4 → -1 ≤ i → i < n → (zref (σ.1 (14 + 2 * s)) (σ.1 (15 + 2 * s)) ln f n) = 0 → f = F → n = N → (∀ j, j < N → (fun j => σ.2 (7 + s) (F + j)) j = (P j : Int)) → (∀ a b, a < b → b < N → P a < P b) → (∀ j, j < N → P j < l.length) → ∀ τ, zfr [2, 3] [2, 3, 11] σ τ → K τ (some (vI (zwans i P 0 (-4) (zsa C law least P N l))))) : zC (d + 40 + 1) 65 [vR (0), vI (sh), vI (ln), vI (f), vI (n), vI (i)] σ K := by
  have hl := hg.2.2.1
  have hb := hg.1
  have hC := hg.1.1
  have hC4 := hg.1.2.1
  refine zC_in rfl ?_
  show zG (d + 40) 65 K 0 zfx (0, [vR (0), vI (sh), vI (ln), vI (f), vI (n), vI (i), vU, vU, vU], [], σ)
  refine r_iload k_65_0 rfl ?_
  refine r_const k_65_2 ?_
  refine r_ic_lt k_65_3 (fun h3 => ?_) (fun h3 => ?_)
  · skip
    refine r_const k_65_25 ?_
    refine r_iret k_65_26 ?_
    exact q1 (by omega)
  · skip
    refine r_iload k_65_6 rfl ?_
    refine r_const k_65_8 ?_
    refine r_ic_gt k_65_9 (fun h9 => ?_) (fun h9 => ?_)
    · skip
      refine r_const k_65_25 ?_
      refine r_iret k_65_26 ?_
      exact q1 (by omega)
    · skip
      refine r_iload k_65_12 rfl ?_
      refine r_const k_65_14 ?_
      refine r_ic_lt k_65_15 (fun h15 => ?_) (fun h15 => ?_)
      · skip
        refine r_const k_65_25 ?_
        refine r_iret k_65_26 ?_
        exact q1 (by omega)
      · skip
        refine r_iload k_65_18 rfl ?_
        refine r_iload k_65_20 rfl ?_
        refine r_ic_lt k_65_22 (fun h22 => ?_) (fun h22 => ?_)
        · skip
          refine r_aload k_65_27 rfl ?_
          refine r_iload k_65_28 rfl ?_
          refine r_call (as := [vR (0), vI (sh)]) (r := []) k_65_29 rfl rfl rfl ?_
          refine s_page (fun s e29 hs => ?_) (fun g29 => ?_)
          · skip
            obtain ⟨b1, b2, b3, b4, b5⟩ := hI s hs
            refine r_astore (L' := [vR (0), vI (sh), vI (ln), vI (f), vI (n), vI (i), vR (zshp s), vU, vU]) k_65_32 rfl ?_
            refine r_aload k_65_34 rfl ?_
            refine r_iload k_65_36 rfl ?_
            refine r_iload k_65_37 rfl ?_
            refine r_iload k_65_38 rfl ?_
            refine r_call (as := [vR (zshp s), vI (ln), vI (f), vI (n)]) (r := []) k_65_40 rfl rfl rfl ?_
            refine s_refs hs (by omega) b1 (fun g40 => ?_) (fun g40 u40 => ?_)
            · skip
              refine r_istore (L' := [vR (0), vI (sh), vI (ln), vI (f), vI (n), vI (i), vR (zshp s), vI (-1), vU]) k_65_43 rfl ?_
              refine r_aload k_65_45 rfl ?_
              refine r_null k_65_47 ?_
              refine r_iload k_65_50 rfl ?_
              refine r_if_eq k_65_52 (fun hz => absurd hz (by decide)) (fun _ => ?_)
              refine r_iload k_65_55 rfl ?_
              refine r_iret k_65_57 ?_
              exact q1 (by omega)
            · skip
              have hzn := zref_n (σ.1 (14 + 2 * s)) (σ.1 (15 + 2 * s)) ln f n
              refine r_istore (L' := [vR (0), vI (sh), vI (ln), vI (f), vI (n), vI (i), vR (zshp s), vI ((zref (σ.1 (14 + 2 * s)) (σ.1 (15 + 2 * s)) ln f n)), vU]) k_65_43 rfl ?_
              refine r_aload k_65_45 rfl ?_
              refine r_null k_65_47 ?_
              refine r_iload k_65_50 rfl ?_
              refine r_if_eq k_65_52 (fun h52 => ?_) (fun h52 => ?_)
              · skip
                refine r_aload k_65_58 rfl ?_
                refine r_aload k_65_59 rfl ?_
                refine r_iload k_65_61 rfl ?_
                refine r_iload k_65_62 rfl ?_
                refine r_call (as := [vR (0), vR (zshp s), vI (f), vI (n)]) (r := []) k_65_64 rfl rfl rfl ?_
                have hz := zref_0 (ln := σ.1 (14 + 2 * s)) (len := σ.1 (15 + 2 * s)) (lane := ln) (f := f) (n := n) (by omega)
                obtain ⟨F, hF⟩ : ∃ F : Nat, f = F := ⟨f.toNat, by omega⟩
                obtain ⟨N, hN⟩ : ∃ N : Nat, n = N := ⟨n.toNat, by omega⟩
                refine s_lost (d := d + 37) hg hx hs hF hN (by omega) (by omega) (fun hr τ1 f1 e1 => ?_) (fun hr τ1 f1 => ?_)
                · skip
                  obtain ⟨P, hP1, hP2, hP3⟩ := zris_P hr
                  have hp0 := hP3 0 (by omega)
                  have hl1 : zis τ1 0 l := zis_fr hx.2.1 f1 (by decide) (by decide)
                  refine r_if_ne k_65_67 (fun _ => ?_) (fun hz => absurd hz (by decide))
                  refine r_aload k_65_73 rfl ?_
                  refine r_getR (q := 22) k_65_74 ⟨rfl, rfl⟩ ?_
                  refine r_aload k_65_77 rfl ?_
                  refine r_getR (q := 1) k_65_78 ⟨rfl, rfl⟩ ?_
                  refine r_getR (q := 2) k_65_81 ⟨rfl, rfl⟩ ?_
                  refine r_aload k_65_84 rfl ?_
                  refine r_getR (q := 1) k_65_85 ⟨rfl, rfl⟩ ?_
                  refine r_getR (q := 2) k_65_88 ⟨rfl, rfl⟩ ?_
                  refine r_getS (v := (l.length : Int)) k_65_91 ⟨rfl, rfl⟩ hl1.1 ?_
                  refine r_call (as := [vR (22), vR (2), vI ((l.length : Int))]) (r := []) k_65_94 rfl rfl rfl ?_
                  refine s_takel (r := 2) (t := 0) (l := l) (m := l.length) (by decide) (by decide) hl1 (by omega) rfl (Nat.le_refl _) (fun τ2 f2 z2 => ?_)
                  rw [List.take_length] at z2
                  refine r_aload k_65_97 rfl ?_
                  refine r_getR (q := 24) k_65_98 ⟨rfl, rfl⟩ ?_
                  refine r_const k_65_101 ?_
                  refine r_putS k_65_102 ⟨rfl, rfl⟩ ?_
                  refine r_aload k_65_105 rfl ?_
                  refine r_getR (q := 1) k_65_106 ⟨rfl, rfl⟩ ?_
                  refine r_getR (q := 4) k_65_109 ⟨rfl, rfl⟩ ?_
                  refine r_aload k_65_112 rfl ?_
                  refine r_getR (q := 22) k_65_113 ⟨rfl, rfl⟩ ?_
                  refine r_const k_65_116 ?_
                  refine r_aload k_65_117 rfl ?_
                  refine r_getR (q := 26) k_65_118 ⟨rfl, rfl⟩ ?_
                  refine r_const k_65_121 ?_
                  refine r_iald (v := ((P 0 : Nat) : Int)) k_65_122 ⟨rfl, rfl⟩ ⟨by decide, by decide⟩ (by rw [zS_2, f2.2 11 (by decide)]; exact (e1 0 (by omega)).trans (hP1 0 (by omega))) ?_
                  refine r_call (as := [vR (4), vR (22), vI (0), vI (((P 0 : Nat) : Int))]) (r := []) k_65_123 rfl rfl rfl ?_
                  have F3 : zfr [2, 3] [2, 3, 11] σ (zsetS τ2 3 0) := zfr_S (zfr_tr f1 f2 (S'' := [2, 3]) (A'' := [2, 3, 11]) (by decide) (by decide)) (by decide)
                  have z3 : zis (zsetS τ2 3 0) 2 l := ⟨z2.1, z2.2⟩
                  have y3 : zis (zsetS τ2 3 0) 3 [] := ⟨zS_1 _ _ _, fun k hk => absurd hk (Nat.not_lt_zero _)⟩
                  have w3 : zrl (zsetS τ2 3 0) C law least := zrl_fr hx.1 F3 (by decide)
                  have a3 : ∀ j, j < N → ((zsetS τ2 3 0)).2 11 j = (P j : Int) := fun j hj => by rw [zS_2, f2.2 11 (by decide), e1 j hj]; exact hP1 j hj
                  refine v_holds (d := d + 36) (r := 2) (fr := 0) (to := P 0) (by decide) hg.1 w3 z3 (zgd_c hg) (by omega) (Nat.zero_le _) (by omega) (fun hh => ?_) (fun hh => ?_)
                  · skip
                    have hA : zsa C law least P N l = zmc C law least P N N 0 l := if_pos (zholdb_t.mpr hh)
                    refine r_if_eq k_65_126 (fun hz => absurd hz (by decide)) (fun _ => ?_)
                    refine r_aload k_65_129 rfl ?_
                    refine r_getR (q := 1) k_65_130 ⟨rfl, rfl⟩ ?_
                    refine r_getR (q := 4) k_65_133 ⟨rfl, rfl⟩ ?_
                    refine r_aload k_65_136 rfl ?_
                    refine r_getR (q := 22) k_65_137 ⟨rfl, rfl⟩ ?_
                    refine r_aload k_65_140 rfl ?_
                    refine r_getR (q := 26) k_65_141 ⟨rfl, rfl⟩ ?_
                    refine r_iload k_65_144 rfl ?_
                    refine r_const k_65_146 ?_
                    refine r_aload k_65_147 rfl ?_
                    refine r_getR (q := 24) k_65_148 ⟨rfl, rfl⟩ ?_
                    refine r_call (as := [vR (4), vR (22), vR (26), vI (n), vI (0), vR (24)]) (r := []) k_65_151 rfl rfl rfl ?_
                    refine v_wayse hN hg.1 (by omega) hP2 (d := d + 30) w3 z3 y3 (zgd_c hg) (by omega) (by omega) hP3 a3 (fun τ4 f4 y4 => ?_)
                    have F4 : zfr [2, 3] [2, 3, 11] σ τ4 := zfr_2 F3 f4 (by decide) (by decide)
                    refine r_goto k_65_154 ?_
                    refine r_istore (L' := [vR (0), vI (sh), vI (ln), vI (f), vI (n), vI (i), vR (zshp s), vI ((zref (σ.1 (14 + 2 * s)) (σ.1 (15 + 2 * s)) ln f n)), vI (((zmc C law least P N N 0 l).length : Nat))]) k_65_158 rfl ?_
                    refine r_iload k_65_160 rfl ?_
                    refine r_if_ge k_65_162 (fun h162 => ?_) (fun h162 => ?_)
                    · skip
                      refine r_iload k_65_168 rfl ?_
                      refine r_if_ne k_65_170 (fun h170 => ?_) (fun h170 => ?_)
                      · skip
                        refine r_aload k_65_178 rfl ?_
                        refine r_getR (q := 24) k_65_179 ⟨rfl, rfl⟩ ?_
                        refine r_aload k_65_182 rfl ?_
                        refine r_getR (q := 26) k_65_183 ⟨rfl, rfl⟩ ?_
                        refine r_iload k_65_186 rfl ?_
                        refine r_iald (v := ((P i.toNat : Nat) : Int)) k_65_188 ⟨rfl, rfl⟩ ⟨by omega, by omega⟩ (by rw [f4.2 11 (by decide)]; exact a3 i.toNat (by omega)) ?_
                        refine r_call (as := [vR (24), vI (((P i.toNat : Nat) : Int))]) (r := []) k_65_189 rfl rfl rfl ?_
                        obtain ⟨q, R, hqR⟩ : ∃ q R, zmc C law least P N N 0 l = q :: R := List.exists_cons_of_ne_nil (fun e => by rw [e] at h170; exact h170 rfl)
                        have hql : q.length = l.length := zmc_all N 0 l q (by rw [hqR]; exact List.mem_cons_self)
                        rw [hqR] at y4
                        have hpi := hP3 i.toNat (by omega)
                        refine v_at (r := 3) (l := q) (k := P i.toNat) (by decide) y4 (by omega) rfl (by omega) ?_
                        refine r_iret k_65_192 ?_
                        exact zKe (q4 s F N P (by omega) hs (by omega) (by omega) (by omega) (by omega) (by omega) (by omega) (by omega) hF hN hP1 hP2 hP3 _ F4) (by rw [hA, hqR]; unfold zwans; rw [if_neg (by omega), if_neg (by omega)])
                      · skip
                        refine r_const k_65_173 ?_
                        refine r_goto k_65_175 ?_
                        refine r_iret k_65_192 ?_
                        exact zKe (q4 s F N P (by omega) hs (by omega) (by omega) (by omega) (by omega) (by omega) (by omega) (by omega) hF hN hP1 hP2 hP3 _ F4) (by rw [hA]; unfold zwans; rw [if_neg (by omega), if_neg (by omega)]; rw [List.length_eq_zero_iff.mp (show (zmc C law least P N N 0 l).length = 0 by omega)])
                    · skip
                      refine r_iload k_65_165 rfl ?_
                      refine r_iret k_65_167 ?_
                      exact zKe (q4 s F N P (by omega) hs (by omega) (by omega) (by omega) (by omega) (by omega) (by omega) (by omega) hF hN hP1 hP2 hP3 _ F4) (by rw [hA]; unfold zwans; rw [if_pos (by omega)]; omega)
                  · skip
                    have hA : zsa C law least P N l = [] := if_neg (by rw [zholdb_f.mpr hh]; decide)
                    refine r_if_eq k_65_126 (fun _ => ?_) (fun hz => absurd hz (by decide))
                    refine r_const k_65_157 ?_
                    refine r_istore (L' := [vR (0), vI (sh), vI (ln), vI (f), vI (n), vI (i), vR (zshp s), vI ((zref (σ.1 (14 + 2 * s)) (σ.1 (15 + 2 * s)) ln f n)), vI (0)]) k_65_158 rfl ?_
                    refine r_iload k_65_160 rfl ?_
                    refine r_if_ge k_65_162 (fun h162 => ?_) (fun h162 => ?_)
                    · skip
                      refine r_iload k_65_168 rfl ?_
                      refine r_if_ne k_65_170 (fun hz => absurd hz (by decide)) (fun _ => ?_)
                      refine r_const k_65_173 ?_
                      refine r_goto k_65_175 ?_
                      refine r_iret k_65_192 ?_
                      exact zKe (q4 s F N P (by omega) hs (by omega) (by omega) (by omega) (by omega) (by omega) (by omega) (by omega) hF hN hP1 hP2 hP3 _ F3) (by rw [hA]; unfold zwans; rw [if_neg (by omega), if_neg (by omega)])
                    · skip
                      refine r_iload k_65_165 rfl ?_
                      refine r_iret k_65_167 ?_
                      exact zKe (q4 s F N P (by omega) hs (by omega) (by omega) (by omega) (by omega) (by omega) (by omega) (by omega) hF hN hP1 hP2 hP3 _ F3) (by rw [hA]; unfold zwans; rw [if_pos (by omega)]; simp)
                · skip
                  refine r_if_ne k_65_67 (fun hz => absurd hz (by decide)) (fun _ => ?_)
                  refine r_const k_65_70 ?_
                  refine r_iret k_65_72 ?_
                  exact q3 s F N (by omega) hs (by omega) (by omega) (by omega) (by omega) (by omega) (by omega) (by omega) hF hN hr _ (zfr_w f1 (by decide) (by decide))
              · skip
                refine r_iload k_65_55 rfl ?_
                refine r_iret k_65_57 ?_
                exact q2 s (by omega) hs (by omega) (by omega) (by omega) (by omega) (by omega) (by omega) (by omega)
          · skip
            refine r_astoreN (L' := [vR (0), vI (sh), vI (ln), vI (f), vI (n), vI (i), vN, vU, vU]) k_65_32 rfl ?_
            refine r_aloadN k_65_34 rfl ?_
            refine r_iload k_65_36 rfl ?_
            refine r_iload k_65_37 rfl ?_
            refine r_iload k_65_38 rfl ?_
            refine r_call (as := [vN, vI (ln), vI (f), vI (n)]) (r := []) k_65_40 rfl rfl rfl ?_
            refine s_refn ?_
            refine r_istore (L' := [vR (0), vI (sh), vI (ln), vI (f), vI (n), vI (i), vN, vI (-1), vU]) k_65_43 rfl ?_
            refine r_aloadN k_65_45 rfl ?_
            refine r_nullN k_65_47 ?_
            refine r_iload k_65_55 rfl ?_
            refine r_iret k_65_57 ?_
            exact q1 (by omega)
        · skip
          refine r_const k_65_25 ?_
          refine r_iret k_65_26 ?_
          exact q1 (by omega)
