/-! film: the two alike -/
theorem x_film {d : Nat} {σ : zM} {K : zM → Option zV → Prop} {C : Nat} {law least draw : Int} {l : List Int} {p : Nat → Int} (hg : zgd C law least draw l p) (hx : zXn σ C law least draw l p) (hI : zIh σ) {sh ln f : Int} (q1 : ¬ ((0 ≤ sh ∧ sh < 4) ∧ 0 ≤ ln ∧ ln ≤ 2) → K σ (some (vI (-1)))) (q2 : ∀ s : Nat, sh = s → s < 4 → 0 ≤ ln → ln ≤ 2 → (zref (σ.1 (14 + 2 * s)) (σ.1 (15 + 2 * s)) ln f l.length) ≠ 0 → K σ (some (vI (zref (σ.1 (14 + 2 * s)) (σ.1 (15 + 2 * s)) ln f l.length)))) (q3 : ∀ s F : Nat, sh = s → s < 4 → 0 ≤ ln → ln ≤ 2 → (zref (σ.1 (14 + 2 * s)) (σ.1 (15 + 2 * s)) ln f l.length) = 0 → f = F → ∀ τ, zfr [] [7 + s] σ τ → (∀ j, τ.2 (7 + s) j = if F ≤ j ∧ j < F + l.length then zlf l (j - (F)) else σ.2 (7 + s) j) → K τ (some (vI l.length))) : zC (d + 2 + 1) 69 [vR (0), vI (sh), vI (ln), vI (f)] σ K := by
  have hl := hg.2.2.1
  have hb := hg.1
  have hC := hg.1.1
  have hC4 := hg.1.2.1
  refine zC_in rfl ?_
  have lp : ∀ (n : Nat) (s F k : Nat) (r : Int) (τ : zM), l.length - k = n → k ≤ l.length → sh = s → s < 4 → 0 ≤ ln → ln ≤ 2 → (zref (σ.1 (14 + 2 * s)) (σ.1 (15 + 2 * s)) ln f l.length) = 0 → f = F → F + l.length ≤ 48 → zfr [] [7 + s] σ τ → zis τ 0 l → (∀ j, τ.2 (7 + s) j = if F ≤ j ∧ j < F + k then zlf l (j - (F)) else σ.2 (7 + s) j) → zG (d + 2) 69 K 0 zfx (42, [vR (0), vI (sh), vI (ln), vI (f), vR (zshp s), vI (r), vI ((k : Int))], [], τ) := by
    intro n
    induction n using Nat.strongRecOn with
    | _ n ih =>
    intro s F k r τ hn g1 hsh hs u0 u2 hz0 hF hFN hf hz1 ha
    refine r_iload k_69_42 rfl ?_
    refine r_aload k_69_44 rfl ?_
    refine r_getR (q := 1) k_69_45 ⟨rfl, rfl⟩ ?_
    refine r_getR (q := 2) k_69_48 ⟨rfl, rfl⟩ ?_
    refine r_getS (v := (l.length : Int)) k_69_51 ⟨rfl, rfl⟩ hz1.1 ?_
    refine r_ic_ge k_69_54 (fun h54 => ?_) (fun h54 => ?_)
    · skip
      refine r_aload k_69_84 rfl ?_
      refine r_getR (q := 1) k_69_85 ⟨rfl, rfl⟩ ?_
      refine r_getR (q := 2) k_69_88 ⟨rfl, rfl⟩ ?_
      refine r_getS (v := (l.length : Int)) k_69_91 ⟨rfl, rfl⟩ hz1.1 ?_
      refine r_iret k_69_94 ?_
      have e : k = l.length := by omega
      rw [e] at ha
      exact q3 s F hsh hs u0 u2 hz0 hF _ hf ha
    · skip
      refine r_aload k_69_57 rfl ?_
      refine r_iload k_69_59 rfl ?_
      refine r_iload k_69_60 rfl ?_
      refine r_bin (v := f + ((k : Int))) k_69_62 (zb_add ⟨by omega, by omega⟩) ?_
      refine r_aload k_69_63 rfl ?_
      refine r_getR (q := 1) k_69_64 ⟨rfl, rfl⟩ ?_
      refine r_getR (q := 2) k_69_67 ⟨rfl, rfl⟩ ?_
      refine r_iload k_69_70 rfl ?_
      refine r_call (as := [vR (2), vI ((k : Int))]) (r := [vI (f + ((k : Int))), vR (zshp s)]) k_69_72 rfl rfl rfl ?_
      refine v_at (r := 0) (l := l) (k := k) (by decide) hz1 (by omega) (by omega) (by omega) ?_
      refine r_call (as := [vR (zshp s), vI (f + ((k : Int))), vI ((zlf l k))]) (r := []) k_69_75 rfl (zrcv_o rfl (zsh_c hs)) rfl ?_
      have hck := zcol_k (zgd_c hg) (k := k) (by omega)
      refine s_sput hs (fun _ _ => ?_) (fun q => by omega)
      rw [zln_s hck.1 hck.2, show (f + (k : Int)).toNat = F + k by omega]
      refine r_iinc (v := (k : Int) + 1) (L' := [vR (0), vI (sh), vI (ln), vI (f), vR (zshp s), vI (r), vI ((k : Int) + 1)]) k_69_78 rfl (zb_add ⟨by omega, by omega⟩) rfl ?_
      refine r_goto k_69_81 ?_
      refine ih _ (by omega) s F (k + 1) r _ rfl (by omega) hsh hs u0 u2 hz0 hF hFN (zfr_A hf (by simp)) (zis_fr hz1 (zfr_A (S := []) (A := [7 + s]) zfr_rf (by simp)) (by simp) (by simp; omega)) (fun j => ?_)
      rw [zA_2]
      by_cases e : j = F + k
      · subst e; rw [zup_1, if_pos (by omega)]; congr 1; omega
      · rw [zup_n e, ha j]
        by_cases c : F ≤ j ∧ j < F + k
        · rw [if_pos c, if_pos (by omega)]
        · rw [if_neg c, if_neg (by omega)]
  show zG (d + 2) 69 K 0 zfx (0, [vR (0), vI (sh), vI (ln), vI (f), vU, vU, vU], [], σ)
  refine r_aload k_69_0 rfl ?_
  refine r_iload k_69_1 rfl ?_
  refine r_call (as := [vR (0), vI (sh)]) (r := []) k_69_2 rfl rfl rfl ?_
  refine s_page (fun s e2 hs => ?_) (fun g2 => ?_)
  · skip
    obtain ⟨b1, b2, b3, b4, b5⟩ := hI s hs
    refine r_astore (L' := [vR (0), vI (sh), vI (ln), vI (f), vR (zshp s), vU, vU]) k_69_5 rfl ?_
    refine r_aload k_69_7 rfl ?_
    refine r_iload k_69_9 rfl ?_
    refine r_iload k_69_10 rfl ?_
    refine r_aload k_69_11 rfl ?_
    refine r_getR (q := 1) k_69_12 ⟨rfl, rfl⟩ ?_
    refine r_getR (q := 2) k_69_15 ⟨rfl, rfl⟩ ?_
    refine r_getS (v := (l.length : Int)) k_69_18 ⟨rfl, rfl⟩ hx.2.1.1 ?_
    refine r_call (as := [vR (zshp s), vI (ln), vI (f), vI ((l.length : Int))]) (r := []) k_69_21 rfl rfl rfl ?_
    refine s_refs hs (by omega) b1 (fun g21 => ?_) (fun g21 u21 => ?_)
    · skip
      refine r_istore (L' := [vR (0), vI (sh), vI (ln), vI (f), vR (zshp s), vI (-1), vU]) k_69_24 rfl ?_
      refine r_aload k_69_26 rfl ?_
      refine r_null k_69_28 ?_
      refine r_iload k_69_31 rfl ?_
      refine r_if_eq k_69_33 (fun hz => absurd hz (by decide)) (fun _ => ?_)
      refine r_iload k_69_36 rfl ?_
      refine r_iret k_69_38 ?_
      exact q1 (by omega)
    · skip
      have hzn := zref_n (σ.1 (14 + 2 * s)) (σ.1 (15 + 2 * s)) ln f ((l.length : Int))
      refine r_istore (L' := [vR (0), vI (sh), vI (ln), vI (f), vR (zshp s), vI ((zref (σ.1 (14 + 2 * s)) (σ.1 (15 + 2 * s)) ln f ((l.length : Int)))), vU]) k_69_24 rfl ?_
      refine r_aload k_69_26 rfl ?_
      refine r_null k_69_28 ?_
      refine r_iload k_69_31 rfl ?_
      refine r_if_eq k_69_33 (fun h33 => ?_) (fun h33 => ?_)
      · skip
        refine r_const k_69_39 ?_
        refine r_istore (L' := [vR (0), vI (sh), vI (ln), vI (f), vR (zshp s), vI ((zref (σ.1 (14 + 2 * s)) (σ.1 (15 + 2 * s)) ln f ((l.length : Int)))), vI (0)]) k_69_40 rfl ?_
        have hz := zref_0 (ln := σ.1 (14 + 2 * s)) (len := σ.1 (15 + 2 * s)) (lane := ln) (f := f) (n := (l.length : Int)) (by omega)
        obtain ⟨F, hF⟩ : ∃ F : Nat, f = F := ⟨f.toNat, by omega⟩
        exact lp _ s F 0 _ _ rfl (by omega) (by omega) hs (by omega) (by omega) (by omega) hF (by omega) zfr_rf hx.2.1 (fun j => by rw [if_neg (by omega)])
      · skip
        refine r_iload k_69_36 rfl ?_
        refine r_iret k_69_38 ?_
        exact q2 s (by omega) hs (by omega) (by omega) (by omega)
  · skip
    refine r_astoreN (L' := [vR (0), vI (sh), vI (ln), vI (f), vN, vU, vU]) k_69_5 rfl ?_
    refine r_aloadN k_69_7 rfl ?_
    refine r_iload k_69_9 rfl ?_
    refine r_iload k_69_10 rfl ?_
    refine r_aload k_69_11 rfl ?_
    refine r_getR (q := 1) k_69_12 ⟨rfl, rfl⟩ ?_
    refine r_getR (q := 2) k_69_15 ⟨rfl, rfl⟩ ?_
    refine r_getS (v := (l.length : Int)) k_69_18 ⟨rfl, rfl⟩ hx.2.1.1 ?_
    refine r_call (as := [vN, vI (ln), vI (f), vI ((l.length : Int))]) (r := []) k_69_21 rfl rfl rfl ?_
    refine s_refn ?_
    refine r_istore (L' := [vR (0), vI (sh), vI (ln), vI (f), vN, vI (-1), vU]) k_69_24 rfl ?_
    refine r_aloadN k_69_26 rfl ?_
    refine r_nullN k_69_28 ?_
    refine r_iload k_69_36 rfl ?_
    refine r_iret k_69_38 ?_
    exact q1 (by omega)
theorem y_film {d : Nat} {σ : zM} {K : zM → Option zV → Prop} {C : Nat} {law least draw : Int} {l : List Int} {p : Nat → Int} (hg : zgd C law least draw l p) (hy : zYn (σ.2 12) C law least draw l p) (hJ : ∀ s, s < 4 → -1 ≤ σ.2 15 s ∧ σ.2 15 s ≤ 48) {sh ln f : Int} (hf1 : -2147483648 ≤ f) (hf2 : f < 2147483648) (q1 : ¬ ((0 ≤ sh ∧ sh < 4) ∧ 0 ≤ ln ∧ ln ≤ 2) → K σ (some (vI (-1)))) (q2 : ∀ s : Nat, sh = s → s < 4 → 0 ≤ ln → ln ≤ 2 → (zref (σ.2 16 s) (σ.2 15 s) ln f l.length) ≠ 0 → K σ (some (vI (zref (σ.2 16 s) (σ.2 15 s) ln f l.length)))) (q3 : ∀ s F : Nat, sh = s → s < 4 → 0 ≤ ln → ln ≤ 2 → (zref (σ.2 16 s) (σ.2 15 s) ln f l.length) = 0 → f = F → ∀ τ, zfr [] [17] σ τ → (∀ j, τ.2 (17) j = if 48 * s + F ≤ j ∧ j < 48 * s + F + l.length then zlf l (j - (48 * s + F)) else σ.2 (17) j) → K τ (some (vI l.length))) : zC (d + 2 + 1) 124 [vR (27), vI (sh), vI (ln), vI (f)] σ K := by
  have hl := hg.2.2.1
  have hb := hg.1
  have hC := hg.1.1
  have hC4 := hg.1.2.1
  refine zC_in rfl ?_
  have lp : ∀ (n : Nat) (s F k : Nat) (r : Int) (τ : zM), l.length - k = n → k ≤ l.length → sh = s → s < 4 → 0 ≤ ln → ln ≤ 2 → (zref (σ.2 16 s) (σ.2 15 s) ln f l.length) = 0 → f = F → F + l.length ≤ 48 → zfr [] [17] σ τ → (∀ j, τ.2 (17) j = if 48 * s + F ≤ j ∧ j < 48 * s + F + k then zlf l (j - (48 * s + F)) else σ.2 (17) j) → zG (d + 2) 124 K 0 zfx (36, [vR (27), vI (sh), vI (ln), vI (f), vI (r), vI ((k : Int))], [], τ) := by
    intro n
    induction n using Nat.strongRecOn with
    | _ n ih =>
    intro s F k r τ hn g1 hsh hs u0 u2 hz0 hF hFN hf ha
    refine r_iload k_124_36 rfl ?_
    refine r_aload k_124_38 rfl ?_
    refine r_getR (q := 28) k_124_39 ⟨rfl, rfl⟩ ?_
    refine r_const k_124_42 ?_
    refine r_iald (v := (l.length : Int)) k_124_43 ⟨rfl, rfl⟩ ⟨by decide, by decide⟩ (by rw [hf.2 12 (by decide)]; exact hy.2.2.2.2.1) ?_
    refine r_ic_ge k_124_44 (fun h44 => ?_) (fun h44 => ?_)
    · skip
      refine r_aload k_124_77 rfl ?_
      refine r_getR (q := 28) k_124_78 ⟨rfl, rfl⟩ ?_
      refine r_const k_124_81 ?_
      refine r_iald (v := (l.length : Int)) k_124_82 ⟨rfl, rfl⟩ ⟨by decide, by decide⟩ (by rw [hf.2 12 (by decide)]; exact hy.2.2.2.2.1) ?_
      refine r_iret k_124_83 ?_
      have e : k = l.length := by omega
      rw [e] at ha
      exact q3 s F hsh hs u0 u2 hz0 hF _ hf ha
    · skip
      refine r_aload k_124_47 rfl ?_
      refine r_getR (q := 33) k_124_48 ⟨rfl, rfl⟩ ?_
      refine r_const k_124_51 ?_
      refine r_iload k_124_53 rfl ?_
      refine r_bin (v := 48 * sh) k_124_54 (zb_mul ⟨by omega, by omega⟩) ?_
      refine r_iload k_124_55 rfl ?_
      refine r_bin (v := 48 * sh + f) k_124_56 (zb_add ⟨by omega, by omega⟩) ?_
      refine r_iload k_124_57 rfl ?_
      refine r_bin (v := 48 * sh + f + ((k : Int))) k_124_59 (zb_add ⟨by omega, by omega⟩) ?_
      refine r_aload k_124_60 rfl ?_
      refine r_getR (q := 28) k_124_61 ⟨rfl, rfl⟩ ?_
      refine r_const k_124_64 ?_
      refine r_iload k_124_66 rfl ?_
      refine r_bin (v := 9 + ((k : Int))) k_124_68 (zb_add ⟨by omega, by omega⟩) ?_
      refine r_iald (v := (zlf l k)) k_124_69 ⟨rfl, rfl⟩ ⟨by omega, by omega⟩ (by rw [show (9 + ((k : Int)) : Int).toNat = 9 + k by omega, hf.2 12 (by decide)]; exact hy.2.2.2.2.2.2 _ (by omega)) ?_
      refine r_iast k_124_70 ⟨rfl, rfl⟩ ⟨by omega, by omega⟩ ?_
      refine r_iinc (v := (k : Int) + 1) (L' := [vR (27), vI (sh), vI (ln), vI (f), vI (r), vI ((k : Int) + 1)]) k_124_71 rfl (zb_add ⟨by omega, by omega⟩) rfl ?_
      refine r_goto k_124_74 ?_
      have ei : (48 * sh + f + (k : Int)).toNat = 48 * s + F + k := by omega
      rw [ei]
      refine ih _ (by omega) s F (k + 1) r _ rfl (by omega) hsh hs u0 u2 hz0 hF hFN (zfr_A hf (by decide)) (fun j => ?_)
      rw [zA_2]
      by_cases e : j = 48 * s + F + k
      · subst e; rw [zup_1, if_pos (by omega)]; congr 1; omega
      · rw [zup_n e, ha j]
        by_cases c : 48 * s + F ≤ j ∧ j < 48 * s + F + k
        · rw [if_pos c, if_pos (by omega)]
        · rw [if_neg c, if_neg (by omega)]
  show zG (d + 2) 124 K 0 zfx (0, [vR (27), vI (sh), vI (ln), vI (f), vU, vU], [], σ)
  refine r_iload k_124_0 rfl ?_
  refine r_iload k_124_1 rfl ?_
  refine r_call (as := [vI (sh), vI (ln)]) (r := []) k_124_2 rfl rfl rfl ?_
  refine y_isSheet (fun g2 => ?_) (fun g2 => ?_)
  · skip
    refine r_if_ne k_124_5 (fun _ => ?_) (fun hz => absurd hz (by decide))
    refine r_aload k_124_10 rfl ?_
    refine r_iload k_124_11 rfl ?_
    refine r_iload k_124_12 rfl ?_
    refine r_iload k_124_13 rfl ?_
    refine r_aload k_124_14 rfl ?_
    refine r_getR (q := 28) k_124_15 ⟨rfl, rfl⟩ ?_
    refine r_const k_124_18 ?_
    refine r_iald (v := (l.length : Int)) k_124_19 ⟨rfl, rfl⟩ ⟨by decide, by decide⟩ hy.2.2.2.2.1 ?_
    refine r_call (as := [vR (27), vI (sh), vI (ln), vI (f), vI ((l.length : Int))]) (r := []) k_124_20 rfl rfl rfl ?_
    obtain ⟨s, hsh⟩ : ∃ s : Nat, sh = s := ⟨Int.toNat sh, by omega⟩
    have hs : s < 4 := by omega
    have b15 := hJ s hs
    refine y_found hsh hs (by omega) (by omega) (by omega) (by omega) ?_
    have hzn := zref_n (σ.2 16 s) (σ.2 15 s) ln f ((l.length : Int))
    refine r_istore (L' := [vR (27), vI (sh), vI (ln), vI (f), vI ((zref (σ.2 16 s) (σ.2 15 s) ln f ((l.length : Int)))), vU]) k_124_23 rfl ?_
    refine r_iload k_124_25 rfl ?_
    refine r_if_ge k_124_27 (fun h27 => ?_) (fun h27 => ?_)
    · skip
      refine r_const k_124_33 ?_
      refine r_istore (L' := [vR (27), vI (sh), vI (ln), vI (f), vI ((zref (σ.2 16 s) (σ.2 15 s) ln f ((l.length : Int)))), vI (0)]) k_124_34 rfl ?_
      have hz := zref_0 (ln := σ.2 16 s) (len := σ.2 15 s) (lane := ln) (f := f) (n := (l.length : Int)) (by omega)
      obtain ⟨F, hF⟩ : ∃ F : Nat, f = F := ⟨f.toNat, by omega⟩
      exact lp _ s F 0 _ _ rfl (by omega) hsh hs (by omega) (by omega) (by omega) hF (by omega) zfr_rf (fun j => by rw [if_neg (by omega)])
    · skip
      refine r_iload k_124_30 rfl ?_
      refine r_iret k_124_32 ?_
      exact q2 s hsh hs (by omega) (by omega) (by omega)
  · skip
    refine r_if_ne k_124_5 (fun hz => absurd hz (by decide)) (fun _ => ?_)
    refine r_const k_124_8 ?_
    refine r_iret k_124_9 ?_
    exact q1 (by omega)
theorem p_film {d : Nat} {σ : zM} (h : zInv σ) {sh ln f : Int} (hf1 : -2147483648 ≤ f) (hf2 : f < 2147483648) : zC (d + 41) 69 [vR 0, vI sh, vI ln, vI f] σ (fun σ1 r1 => zC (d + 5) 124 [vR 27, vI sh, vI ln, vI f] σ1 (zpq σ1 r1)) := by
  have hI := h.2.2.2
  obtain ⟨C, law, least, draw, l, p, hg, hx, hy⟩ := h.1
  refine x_film (d := d + 38) hg hx hI (fun q => ?_) (fun s e hs u0 u2 g => ?_) (fun s F e hs u0 u2 g eF τ ft ha => ?_)
  · exact y_film (d := d + 2) hg hy (zIh_J hI) hf1 hf2 (fun _ => ⟨⟨_, rfl, rfl⟩, h⟩) (fun s e hs u0 u2 => absurd ⟨⟨by omega, by omega⟩, u0, u2⟩ q) (fun s F e hs u0 u2 => absurd ⟨⟨by omega, by omega⟩, u0, u2⟩ q)
  · obtain ⟨b1, b2, b3, b4, b5⟩ := hI s hs
    refine y_film (d := d + 2) hg hy (zIh_J hI) hf1 hf2 (fun q => absurd ⟨⟨by omega, by omega⟩, u0, u2⟩ q) (fun s2 e2 hs2 _ _ g2 => ?_) (fun s2 F e2 hs2 _ _ g2 => ?_)
    · obtain rfl : s2 = s := by omega
      exact ⟨⟨_, rfl, by rw [b2, b4]⟩, h⟩
    · obtain rfl : s2 = s := by omega
      rw [b2, b4] at g2
      exact absurd g2 g
  · obtain ⟨b1, b2, b3, b4, b5⟩ := hI s hs
    have hy2 : zYn (τ.2 12) C law least draw l p := by rw [ft.2 12 (by simp; omega)]; exact hy
    have hz := zref_0 g
    have e15 := ft.2 15 (by simp; omega)
    have e16 := ft.2 16 (by simp; omega)
    have e17 := ft.2 17 (by simp; omega)
    refine y_film (d := d + 2) hg hy2 (fun s2 hs2 => by rw [e15]; exact zIh_J hI s2 hs2) hf1 hf2 (fun q => absurd ⟨⟨by omega, by omega⟩, u0, u2⟩ q) (fun s2 e2 hs2 _ _ g2 => ?_) (fun s2 F2 e2 hs2 _ _ g2 eF2 υ fu hb => ⟨⟨_, rfl, rfl⟩, ?_⟩)
    · obtain rfl : s2 = s := by omega
      rw [e15, e16, b2, b4] at g2
      exact absurd g g2
    · obtain rfl : s2 = s := by omega
      obtain rfl : F2 = F := by omega
      have F : zfr [] [7 + s2, 17] σ υ := zfr_tr ft fu (by simp) (by simp)
      refine zInv_sh h F (fun n hn => by cases hn) (fun n hn => ?_) (zIh_mk (s0 := s2) hI (fun s hs3 hs4 => ⟨⟨F.1 _ (by simp), F.1 _ (by simp)⟩, ?_, ?_, ?_, fun k hk => ?_⟩) ⟨?_, ?_, ?_, ?_, fun k hk => ?_⟩)
      · simp at hn; omega
      · exact F.2 _ (by simp; omega)
      · exact congrFun (F.2 15 (by simp; omega)) s
      · exact congrFun (F.2 16 (by simp; omega)) s
      · rw [hb, if_neg (by omega), e17]
      · rw [F.1 _ (by simp)]; exact b1
      · rw [F.1 _ (by simp), F.2 15 (by simp; omega)]; exact b2
      · rw [F.1 _ (by simp)]; exact b3
      · rw [F.1 _ (by simp), F.2 16 (by simp; omega)]; exact b4
      · rw [fu.2 (7 + s2) (by simp; omega), hb, ha k]
        by_cases c : F2 ≤ k ∧ k < F2 + l.length
        · rw [if_pos c, if_pos (by omega)]; congr 1; omega
        · rw [if_neg c, if_neg (by omega), e17]; exact b5 k hk
