/-! build: the two alike -/
def zmk (g : Nat → Int) (F : Nat) : Nat → List Int
  | 0 => []
  | k + 1 => zmk g F k ++ [g (F + k)]
theorem zmk_len {g : Nat → Int} {F : Nat} : ∀ k, (zmk g F k).length = k
  | 0 => rfl
  | k + 1 => by rw [zmk, zlen1, zmk_len k]
theorem zmk_lf {g : Nat → Int} {F : Nat} : ∀ k j, j < k → zlf (zmk g F k) j = g (F + j)
  | 0, j, h => absurd h (Nat.not_lt_zero _)
  | k + 1, j, h => by
    rw [zmk]
    by_cases e : j < k
    · rw [zlf_l (by rw [zmk_len]; exact e)]; exact zmk_lf k j e
    · obtain rfl : j = k := by omega
      have := zlf_e (l := zmk g F j) (c := g (F + j))
      rw [zmk_len] at this
      exact this
theorem zmk_congr {g h : Nat → Int} {F : Nat} : ∀ k, (∀ j, j < k → g (F + j) = h (F + j)) → zmk g F k = zmk h F k
  | 0, _ => rfl
  | k + 1, e => by rw [zmk, zmk, zmk_congr k (fun j hj => e j (by omega)), e k (by omega)]
theorem zmk_mem {g : Nat → Int} {F : Nat} {x : Int} {k : Nat} (h : x ∈ zmk g F k) : ∃ j, j < k ∧ x = g (F + j) := by
  obtain ⟨j, hj, e⟩ := zmem_lf h
  rw [zmk_len] at hj
  exact ⟨j, hj, by rw [← e, zmk_lf k j hj]⟩
theorem x_build {d : Nat} {σ : zM} {K : zM → Option zV → Prop} {C : Nat} {law least draw : Int} {l : List Int} {p : Nat → Int} (hg : zgd C law least draw l p) (hx : zXn σ C law least draw l p) (hI : zIh σ) {sh ln f n : Int} (q1 : ¬ ((0 ≤ sh ∧ sh < 4) ∧ (0 ≤ ln ∧ ln ≤ 2) ∧ 0 ≤ n ∧ n ≤ 48) → K σ (some (vI (-1)))) (q2 : ∀ s : Nat, sh = s → s < 4 → 0 ≤ ln → ln ≤ 2 → 0 ≤ n → n ≤ 48 → (zref (σ.1 (14 + 2 * s)) (σ.1 (15 + 2 * s)) ln f n) ≠ 0 → K σ (some (vI (zref (σ.1 (14 + 2 * s)) (σ.1 (15 + 2 * s)) ln f n)))) (q3 : ∀ s F j : Nat, sh = s → s < 4 → 0 ≤ ln → ln ≤ 2 → 0 ≤ n → n ≤ 48 → (zref (σ.1 (14 + 2 * s)) (σ.1 (15 + 2 * s)) ln f n) = 0 → f = F → (j : Int) < n → ¬ (0 ≤ σ.2 (7 + s) (F + j) ∧ σ.2 (7 + s) (F + j) < (C : Int)) → ∀ τ, zfr [2] [2] σ τ → K τ (some (vI (-2)))) (q4 : ∀ s F N : Nat, sh = s → s < 4 → 0 ≤ ln → ln ≤ 2 → 0 ≤ n → n ≤ 48 → (zref (σ.1 (14 + 2 * s)) (σ.1 (15 + 2 * s)) ln f n) = 0 → f = F → n = N → (∀ j, j < N → 0 ≤ σ.2 (7 + s) (F + j) ∧ σ.2 (7 + s) (F + j) < (C : Int)) → ∀ τ, zfr [0, 2] [0, 2] σ τ → zis τ 0 (zmk (σ.2 (7 + s)) F N) → K τ (some (vI n))) : zC (d + 2 + 1) 68 [vR (0), vI (sh), vI (ln), vI (f), vI (n)] σ K := by
  have hl := hg.2.2.1
  have hb := hg.1
  have hC := hg.1.1
  have hC4 := hg.1.2.1
  refine zC_in rfl ?_
  have lp : ∀ (m : Nat) (s F N k : Nat) (r : Int) (τ : zM), N - k = m → k ≤ N → sh = s → s < 4 → 0 ≤ ln → ln ≤ 2 → n = N → N ≤ 48 → (zref (σ.1 (14 + 2 * s)) (σ.1 (15 + 2 * s)) ln f n) = 0 → f = F → F + N ≤ 48 → (∀ j, j < k → 0 ≤ σ.2 (7 + s) (F + j) ∧ σ.2 (7 + s) (F + j) < (C : Int)) → zrl τ C law least → zis τ 2 (zmk (σ.2 (7 + s)) F k) → zfr [2] [2] σ τ → zG (d + 2) 68 K 0 zfx (56, [vR (0), vI (sh), vI (ln), vI (f), vI (n), vR (zshp s), vI (r), vI ((k : Int)), vU], [], τ) := by
    intro m
    induction m using Nat.strongRecOn with
    | _ m ih =>
    intro s F N k r τ hm g1 hsh hs u0 u2 hN hN48 hz0 hF hFN ha W1 hz1 F1
    have hml := zmk_len (g := σ.2 (7 + s)) (F := F) k
    refine r_iload k_68_56 rfl ?_
    refine r_iload k_68_58 rfl ?_
    refine r_ic_ge k_68_60 (fun h60 => ?_) (fun h60 => ?_)
    · skip
      refine r_aload k_68_107 rfl ?_
      refine r_getR (q := 1) k_68_108 ⟨rfl, rfl⟩ ?_
      refine r_getR (q := 2) k_68_111 ⟨rfl, rfl⟩ ?_
      refine r_aload k_68_114 rfl ?_
      refine r_getR (q := 22) k_68_115 ⟨rfl, rfl⟩ ?_
      refine r_iload k_68_118 rfl ?_
      refine r_call (as := [vR (2), vR (22), vI (n)]) (r := []) k_68_120 rfl rfl rfl ?_
      have hkN : k = N := by omega
      subst hkN
      refine s_takel (r := 0) (t := 2) (l := zmk (σ.2 (7 + s)) F k) (m := k) (by decide) (by decide) hz1 (by rw [zmk_len]; omega) hN (by rw [zmk_len]; omega) (fun τ9 f9 z9 => ?_)
      rw [List.take_of_length_le (by rw [zmk_len]; omega)] at z9
      have F9 : zfr [0, 2] [0, 2] σ τ9 := zfr_tr F1 f9 (by decide) (by decide)
      refine r_iload k_68_123 rfl ?_
      refine r_iret k_68_125 ?_
      exact q4 s F k hsh hs u0 u2 (by omega) (by omega) hz0 hF (by omega) ha _ F9 z9
    · skip
      refine r_aload k_68_63 rfl ?_
      refine r_iload k_68_65 rfl ?_
      refine r_iload k_68_66 rfl ?_
      refine r_bin (v := f + ((k : Int))) k_68_68 (zb_add ⟨by omega, by omega⟩) ?_
      refine r_call (as := [vR (zshp s), vI (f + ((k : Int)))]) (r := []) k_68_69 rfl (zrcv_o rfl (zsh_c hs)) rfl ?_
      refine s_sat hs (fun _ _ => ?_) (fun q => by omega)
      rw [F1.2 (7 + s) (by simp; omega), show (f + (k : Int)).toNat = F + k by omega]
      refine r_istore (L' := [vR (0), vI (sh), vI (ln), vI (f), vI (n), vR (zshp s), vI (r), vI ((k : Int)), vI ((σ.2 (7 + s) (F + k)))]) k_68_72 rfl ?_
      refine r_aload k_68_74 rfl ?_
      refine r_getR (q := 1) k_68_75 ⟨rfl, rfl⟩ ?_
      refine r_getR (q := 4) k_68_78 ⟨rfl, rfl⟩ ?_
      refine r_iload k_68_81 rfl ?_
      refine r_call (as := [vR (4), vI ((σ.2 (7 + s) (F + k)))]) (r := []) k_68_83 rfl rfl rfl ?_
      refine s_hasCol (fun g83 e83 => ?_) (fun g83 => ?_)
      · skip
        rw [W1.1] at e83
        refine r_if_ne k_68_86 (fun _ => ?_) (fun hz => absurd hz (by decide))
        refine r_aload k_68_92 rfl ?_
        refine r_getR (q := 22) k_68_93 ⟨rfl, rfl⟩ ?_
        refine r_iload k_68_96 rfl ?_
        refine r_call (as := [vR (22), vI ((σ.2 (7 + s) (F + k)))]) (r := []) k_68_98 rfl rfl rfl ?_
        refine v_add (r := 2) (l := (zmk (σ.2 (7 + s)) F k)) (c := (σ.2 (7 + s) (F + k))) (by decide) hz1 (by rw [zmk_len]; omega) (fun τ1 f1 z1 => ?_)
        have F1 := zfr_2 F1 f1 (by decide) (by decide)
        have W1 := zrl_fr W1 f1 (by decide)
        refine r_iinc (v := (k : Int) + 1) (L' := [vR (0), vI (sh), vI (ln), vI (f), vI (n), vR (zshp s), vI (r), vI ((k : Int) + 1), vI ((σ.2 (7 + s) (F + k)))]) k_68_101 rfl (zb_add ⟨by omega, by omega⟩) rfl ?_
        refine r_goto k_68_104 ?_
        refine r_cut (L' := [vR (0), vI (sh), vI (ln), vI (f), vI (n), vR (zshp s), vI (r), vI ((k : Int) + 1), vU]) 8 rfl ?_
        exact ih _ (by omega) s F N (k + 1) r _ rfl (by omega) hsh hs u0 u2 hN hN48 hz0 hF hFN (fun j hj => by
          by_cases e : j = k
          · subst e; omega
          · exact ha j (by omega)) W1 z1 F1
      · skip
        rw [W1.1] at g83
        refine r_if_ne k_68_86 (fun hz => absurd hz (by decide)) (fun _ => ?_)
        refine r_const k_68_89 ?_
        refine r_iret k_68_91 ?_
        exact q3 s F k hsh hs u0 u2 (by omega) (by omega) hz0 hF (by omega) (by omega) _ F1
  show zG (d + 2) 68 K 0 zfx (0, [vR (0), vI (sh), vI (ln), vI (f), vI (n), vU, vU, vU, vU], [], σ)
  refine r_iload k_68_0 rfl ?_
  refine r_if_lt k_68_2 (fun h2 => ?_) (fun h2 => ?_)
  · skip
    refine r_const k_68_12 ?_
    refine r_iret k_68_13 ?_
    exact q1 (by omega)
  · skip
    refine r_iload k_68_5 rfl ?_
    refine r_const k_68_7 ?_
    refine r_ic_le k_68_9 (fun h9 => ?_) (fun h9 => ?_)
    · skip
      refine r_aload k_68_14 rfl ?_
      refine r_iload k_68_15 rfl ?_
      refine r_call (as := [vR (0), vI (sh)]) (r := []) k_68_16 rfl rfl rfl ?_
      refine s_page (fun s e16 hs => ?_) (fun g16 => ?_)
      · skip
        obtain ⟨b1, b2, b3, b4, b5⟩ := hI s hs
        refine r_astore (L' := [vR (0), vI (sh), vI (ln), vI (f), vI (n), vR (zshp s), vU, vU, vU]) k_68_19 rfl ?_
        refine r_aload k_68_21 rfl ?_
        refine r_iload k_68_23 rfl ?_
        refine r_iload k_68_24 rfl ?_
        refine r_iload k_68_25 rfl ?_
        refine r_call (as := [vR (zshp s), vI (ln), vI (f), vI (n)]) (r := []) k_68_27 rfl rfl rfl ?_
        refine s_refs hs (by omega) b1 (fun g27 => ?_) (fun g27 u27 => ?_)
        · skip
          refine r_istore (L' := [vR (0), vI (sh), vI (ln), vI (f), vI (n), vR (zshp s), vI (-1), vU, vU]) k_68_30 rfl ?_
          refine r_aload k_68_32 rfl ?_
          refine r_null k_68_34 ?_
          refine r_iload k_68_37 rfl ?_
          refine r_if_eq k_68_39 (fun hz => absurd hz (by decide)) (fun _ => ?_)
          refine r_iload k_68_42 rfl ?_
          refine r_iret k_68_44 ?_
          exact q1 (by omega)
        · skip
          have hzn := zref_n (σ.1 (14 + 2 * s)) (σ.1 (15 + 2 * s)) ln f n
          refine r_istore (L' := [vR (0), vI (sh), vI (ln), vI (f), vI (n), vR (zshp s), vI ((zref (σ.1 (14 + 2 * s)) (σ.1 (15 + 2 * s)) ln f n)), vU, vU]) k_68_30 rfl ?_
          refine r_aload k_68_32 rfl ?_
          refine r_null k_68_34 ?_
          refine r_iload k_68_37 rfl ?_
          refine r_if_eq k_68_39 (fun h39 => ?_) (fun h39 => ?_)
          · skip
            refine r_aload k_68_45 rfl ?_
            refine r_getR (q := 22) k_68_46 ⟨rfl, rfl⟩ ?_
            refine r_const k_68_49 ?_
            refine r_putS k_68_50 ⟨rfl, rfl⟩ ?_
            refine r_const k_68_53 ?_
            refine r_istore (L' := [vR (0), vI (sh), vI (ln), vI (f), vI (n), vR (zshp s), vI ((zref (σ.1 (14 + 2 * s)) (σ.1 (15 + 2 * s)) ln f n)), vI (0), vU]) k_68_54 rfl ?_
            have hz := zref_0 (ln := σ.1 (14 + 2 * s)) (len := σ.1 (15 + 2 * s)) (lane := ln) (f := f) (n := n) (by omega)
            obtain ⟨F, hF⟩ : ∃ F : Nat, f = F := ⟨f.toNat, by omega⟩
            obtain ⟨N, hN⟩ : ∃ N : Nat, n = N := ⟨n.toNat, by omega⟩
            exact lp _ s F N 0 _ _ rfl (by omega) (by omega) hs (by omega) (by omega) hN (by omega) (by omega) hF (by omega) (fun j hj => absurd hj (Nat.not_lt_zero _)) (zrl_fr hx.1 (zfr_S (S := [2]) (A := []) zfr_rf (by decide)) (by decide)) ⟨zS_1 _ _ _, fun k hk => absurd hk (Nat.not_lt_zero _)⟩ (zfr_S zfr_rf (by decide))
          · skip
            refine r_iload k_68_42 rfl ?_
            refine r_iret k_68_44 ?_
            exact q2 s (by omega) hs (by omega) (by omega) (by omega) (by omega) (by omega)
      · skip
        refine r_astoreN (L' := [vR (0), vI (sh), vI (ln), vI (f), vI (n), vN, vU, vU, vU]) k_68_19 rfl ?_
        refine r_aloadN k_68_21 rfl ?_
        refine r_iload k_68_23 rfl ?_
        refine r_iload k_68_24 rfl ?_
        refine r_iload k_68_25 rfl ?_
        refine r_call (as := [vN, vI (ln), vI (f), vI (n)]) (r := []) k_68_27 rfl rfl rfl ?_
        refine s_refn ?_
        refine r_istore (L' := [vR (0), vI (sh), vI (ln), vI (f), vI (n), vN, vI (-1), vU, vU]) k_68_30 rfl ?_
        refine r_aloadN k_68_32 rfl ?_
        refine r_nullN k_68_34 ?_
        refine r_iload k_68_42 rfl ?_
        refine r_iret k_68_44 ?_
        exact q1 (by omega)
    · skip
      refine r_const k_68_12 ?_
      refine r_iret k_68_13 ?_
      exact q1 (by omega)
theorem y_build {d : Nat} {σ : zM} {K : zM → Option zV → Prop} {C : Nat} {law least draw : Int} {l : List Int} {p : Nat → Int} (hg : zgd C law least draw l p) (hy : zYn (σ.2 12) C law least draw l p) (hJ : ∀ s, s < 4 → -1 ≤ σ.2 15 s ∧ σ.2 15 s ≤ 48) {sh ln f n : Int} (hf1 : -2147483648 ≤ f) (hf2 : f < 2147483648) (q1 : ¬ ((0 ≤ sh ∧ sh < 4) ∧ (0 ≤ ln ∧ ln ≤ 2) ∧ 0 ≤ n ∧ n ≤ 48) → K σ (some (vI (-1)))) (q2 : ∀ s : Nat, sh = s → s < 4 → 0 ≤ ln → ln ≤ 2 → 0 ≤ n → n ≤ 48 → (zref (σ.2 16 s) (σ.2 15 s) ln f n) ≠ 0 → K σ (some (vI (zref (σ.2 16 s) (σ.2 15 s) ln f n)))) (q3 : ∀ s F j : Nat, sh = s → s < 4 → 0 ≤ ln → ln ≤ 2 → 0 ≤ n → n ≤ 48 → (zref (σ.2 16 s) (σ.2 15 s) ln f n) = 0 → f = F → (j : Int) < n → ¬ (0 ≤ (fun j => σ.2 17 (48 * s + j)) (F + j) ∧ (fun j => σ.2 17 (48 * s + j)) (F + j) < (C : Int)) → ∀ τ, zfr [] [] σ τ → K τ (some (vI (-2)))) (q4 : ∀ s F N : Nat, sh = s → s < 4 → 0 ≤ ln → ln ≤ 2 → 0 ≤ n → n ≤ 48 → (zref (σ.2 16 s) (σ.2 15 s) ln f n) = 0 → f = F → n = N → (∀ j, j < N → 0 ≤ (fun j => σ.2 17 (48 * s + j)) (F + j) ∧ (fun j => σ.2 17 (48 * s + j)) (F + j) < (C : Int)) → ∀ τ, zfr [] [12] σ τ → zYn (τ.2 12) C law least draw (zmk (fun j => σ.2 17 (48 * s + j)) F N) p → K τ (some (vI n))) : zC (d + 2 + 1) 123 [vR (27), vI (sh), vI (ln), vI (f), vI (n)] σ K := by
  have hl := hg.2.2.1
  have hb := hg.1
  have hC := hg.1.1
  have hC4 := hg.1.2.1
  refine zC_in rfl ?_
  have lpx : ∀ (m : Nat) (k : Nat) (r : Int) (τ : zM), r < 0 → K τ (some (vI r)) → zG (d + 2) 123 K 0 zfx (37, [vR (27), vI (sh), vI (ln), vI (f), vI (n), vI (r), vI ((k : Int))], [], τ) := by
    intro m
    induction m using Nat.strongRecOn with
    | _ m ih =>
    intro k r τ hr hq
    refine r_iload k_123_37 rfl ?_
    refine r_iload k_123_39 rfl ?_
    refine r_ic_ge k_123_41 (fun h41 => ?_) (fun h41 => ?_)
    · skip
      refine r_iload k_123_84 rfl ?_
      refine r_if_ge k_123_86 (fun hz => absurd hz (by omega)) (fun _ => ?_)
      refine r_iload k_123_89 rfl ?_
      refine r_iret k_123_91 ?_
      exact hq
    · skip
      refine r_iload k_123_44 rfl ?_
      refine r_if_ne k_123_46 (fun _ => ?_) (fun hz => absurd hz (by omega))
      refine r_iload k_123_84 rfl ?_
      refine r_if_ge k_123_86 (fun hz => absurd hz (by omega)) (fun _ => ?_)
      refine r_iload k_123_89 rfl ?_
      refine r_iret k_123_91 ?_
      exact hq
  have lp2 : ∀ (m : Nat) (s F N k : Nat) (r : Int) (τ : zM), N - k = m → k ≤ N → sh = s → s < 4 → 0 ≤ ln → ln ≤ 2 → n = N → N ≤ 48 → (zref (σ.2 16 s) (σ.2 15 s) ln f n) = 0 → f = F → F + N ≤ 48 → (∀ j, j < N → 0 ≤ σ.2 17 (48 * s + (F + j)) ∧ σ.2 17 (48 * s + (F + j)) < (C : Int)) → zfr [] [12] σ τ → (∀ j, j < 9 → τ.2 12 j = σ.2 12 j) → (∀ j, j < k → τ.2 12 (9 + j) = σ.2 17 (48 * s + (F + j))) → zG (d + 2) 123 K 0 zfx (95, [vR (27), vI (sh), vI (ln), vI (f), vI (n), vI (r), vI ((k : Int))], [], τ) := by
    intro m
    induction m using Nat.strongRecOn with
    | _ m ih =>
    intro s F N k r τ hm g1 hsh hs u0 u2 hN hN48 hz0 hF hFN ha hf ho hc
    refine r_iload k_123_95 rfl ?_
    refine r_iload k_123_97 rfl ?_
    refine r_ic_ge k_123_99 (fun h99 => ?_) (fun h99 => ?_)
    · skip
      refine r_aload k_123_132 rfl ?_
      refine r_getR (q := 28) k_123_133 ⟨rfl, rfl⟩ ?_
      refine r_const k_123_136 ?_
      refine r_iload k_123_137 rfl ?_
      refine r_iast k_123_139 ⟨rfl, rfl⟩ ⟨by decide, by decide⟩ ?_
      refine r_iload k_123_140 rfl ?_
      refine r_iret k_123_142 ?_
      have hkN : k = N := by omega
      subst hkN
      refine q4 s F k hsh hs u0 u2 (by omega) (by omega) hz0 hF hN ha _ (zfr_A hf (by decide)) ?_
      rw [zA_2, show (4 : Int).toNat = 4 from rfl]
      obtain ⟨a0, a1, a2, a3, a4, a5, a6⟩ := hy
      refine ⟨?_, ?_, ?_, ?_, ?_, fun j hj => ?_, fun j hj => ?_⟩
      · rw [zup_n (by decide), ho 0 (by omega)]; exact a0
      · rw [zup_n (by decide), ho 1 (by omega)]; exact a1
      · rw [zup_n (by decide), ho 2 (by omega)]; exact a2
      · rw [zup_n (by decide), ho 3 (by omega)]; exact a3
      · rw [zup_1, zmk_len]; exact hN
      · rw [zup_n (by omega), ho _ (by omega)]; exact a5 j hj
      · rw [zmk_len] at hj
        rw [zup_n (by omega), zmk_lf _ _ hj]; exact hc j hj
    · skip
      refine r_aload k_123_102 rfl ?_
      refine r_getR (q := 28) k_123_103 ⟨rfl, rfl⟩ ?_
      refine r_const k_123_106 ?_
      refine r_iload k_123_108 rfl ?_
      refine r_bin (v := 9 + ((k : Int))) k_123_110 (zb_add ⟨by omega, by omega⟩) ?_
      refine r_aload k_123_111 rfl ?_
      refine r_getR (q := 33) k_123_112 ⟨rfl, rfl⟩ ?_
      refine r_const k_123_115 ?_
      refine r_iload k_123_117 rfl ?_
      refine r_bin (v := 48 * sh) k_123_118 (zb_mul ⟨by omega, by omega⟩) ?_
      refine r_iload k_123_119 rfl ?_
      refine r_bin (v := 48 * sh + f) k_123_120 (zb_add ⟨by omega, by omega⟩) ?_
      refine r_iload k_123_121 rfl ?_
      refine r_bin (v := 48 * sh + f + ((k : Int))) k_123_123 (zb_add ⟨by omega, by omega⟩) ?_
      refine r_iald (v := (σ.2 17 (48 * s + (F + k)))) k_123_124 ⟨rfl, rfl⟩ ⟨by omega, by omega⟩ (by rw [show (48 * sh + f + ((k : Int)) : Int).toNat = 48 * s + (F + k) by omega, hf.2 17 (by decide)]) ?_
      refine r_iast k_123_125 ⟨rfl, rfl⟩ ⟨by omega, by omega⟩ ?_
      refine r_iinc (v := (k : Int) + 1) (L' := [vR (27), vI (sh), vI (ln), vI (f), vI (n), vI (r), vI ((k : Int) + 1)]) k_123_126 rfl (zb_add ⟨by omega, by omega⟩) rfl ?_
      refine r_goto k_123_129 ?_
      refine ih _ (by omega) s F N (k + 1) r _ rfl (by omega) hsh hs u0 u2 hN hN48 hz0 hF hFN ha (zfr_A hf (by decide)) (fun j hj => ?_) (fun j hj => ?_)
      · rw [zA_2, zup_n (by omega)]; exact ho j hj
      · rw [zA_2]
        by_cases e : j = k
        · subst e; rw [show (9 + (j : Int)).toNat = 9 + j by omega, zup_1]
        · rw [zup_n (by omega)]; exact hc j (by omega)
  have lp1 : ∀ (m : Nat) (s F N k : Nat), N - k = m → k ≤ N → sh = s → s < 4 → 0 ≤ ln → ln ≤ 2 → n = N → N ≤ 48 → (zref (σ.2 16 s) (σ.2 15 s) ln f n) = 0 → f = F → F + N ≤ 48 → (∀ j, j < k → 0 ≤ σ.2 17 (48 * s + (F + j)) ∧ σ.2 17 (48 * s + (F + j)) < (C : Int)) → zG (d + 2) 123 K 0 zfx (37, [vR (27), vI (sh), vI (ln), vI (f), vI (n), vI (0), vI ((k : Int))], [], σ) := by
    intro m
    induction m using Nat.strongRecOn with
    | _ m ih =>
    intro s F N k hm g1 hsh hs u0 u2 hN hN48 hz0 hF hFN ha
    refine r_iload k_123_37 rfl ?_
    refine r_iload k_123_39 rfl ?_
    refine r_ic_ge k_123_41 (fun h41 => ?_) (fun h41 => ?_)
    · skip
      refine r_iload k_123_84 rfl ?_
      refine r_if_ge k_123_86 (fun _ => ?_) (fun hz => absurd hz (by decide))
      refine r_const k_123_92 ?_
      refine r_istore (L' := [vR (27), vI (sh), vI (ln), vI (f), vI (n), vI (0), vI (0)]) k_123_93 rfl ?_
      exact lp2 _ s F N 0 _ _ rfl (by omega) hsh hs u0 u2 hN hN48 hz0 hF hFN (fun j hj => ha j (by omega)) zfr_rf (fun _ _ => rfl) (fun j hj => absurd hj (Nat.not_lt_zero _))
    · skip
      refine r_iload k_123_44 rfl ?_
      refine r_if_ne k_123_46 (fun hz => absurd hz (by decide)) (fun _ => ?_)
      refine r_aload k_123_49 rfl ?_
      refine r_aload k_123_50 rfl ?_
      refine r_getR (q := 33) k_123_51 ⟨rfl, rfl⟩ ?_
      refine r_const k_123_54 ?_
      refine r_iload k_123_56 rfl ?_
      refine r_bin (v := 48 * sh) k_123_57 (zb_mul ⟨by omega, by omega⟩) ?_
      refine r_iload k_123_58 rfl ?_
      refine r_bin (v := 48 * sh + f) k_123_59 (zb_add ⟨by omega, by omega⟩) ?_
      refine r_iload k_123_60 rfl ?_
      refine r_bin (v := 48 * sh + f + ((k : Int))) k_123_62 (zb_add ⟨by omega, by omega⟩) ?_
      refine r_iald (v := (σ.2 17 (48 * s + (F + k)))) k_123_63 ⟨rfl, rfl⟩ ⟨by omega, by omega⟩ (by rw [show (48 * sh + f + ((k : Int)) : Int).toNat = 48 * s + (F + k) by omega]) ?_
      refine r_call (as := [vR (27), vI ((σ.2 17 (48 * s + (F + k))))]) (r := []) k_123_64 rfl rfl rfl ?_
      refine y_isColour hg hy (fun g64 e64 => ?_) (fun g64 => ?_)
      · skip
        refine r_if_eq k_123_67 (fun hz => absurd hz (by decide)) (fun _ => ?_)
        refine r_const k_123_70 ?_
        refine r_goto k_123_71 ?_
        refine r_istore (L' := [vR (27), vI (sh), vI (ln), vI (f), vI (n), vI (0), vI ((k : Int))]) k_123_76 rfl ?_
        refine r_iinc (v := (k : Int) + 1) (L' := [vR (27), vI (sh), vI (ln), vI (f), vI (n), vI (0), vI ((k : Int) + 1)]) k_123_78 rfl (zb_add ⟨by omega, by omega⟩) rfl ?_
        refine r_goto k_123_81 ?_
        exact ih _ (by omega) s F N (k + 1) rfl (by omega) hsh hs u0 u2 hN hN48 hz0 hF hFN (fun j hj => by
          by_cases e : j = k
          · subst e; omega
          · exact ha j (by omega))
      · skip
        refine r_if_eq k_123_67 (fun _ => ?_) (fun hz => absurd hz (by decide))
        refine r_const k_123_74 ?_
        refine r_istore (L' := [vR (27), vI (sh), vI (ln), vI (f), vI (n), vI (-2), vI ((k : Int))]) k_123_76 rfl ?_
        refine r_iinc (v := (k : Int) + 1) (L' := [vR (27), vI (sh), vI (ln), vI (f), vI (n), vI (-2), vI ((k : Int) + 1)]) k_123_78 rfl (zb_add ⟨by omega, by omega⟩) rfl ?_
        refine r_goto k_123_81 ?_
        exact lpx 0 _ (-2) _ (by decide) (q3 s F k hsh hs u0 u2 (by omega) (by omega) hz0 hF (by omega) (by omega) _ zfr_rf)
  show zG (d + 2) 123 K 0 zfx (0, [vR (27), vI (sh), vI (ln), vI (f), vI (n), vU, vU], [], σ)
  refine r_iload k_123_0 rfl ?_
  refine r_iload k_123_1 rfl ?_
  refine r_call (as := [vI (sh), vI (ln)]) (r := []) k_123_2 rfl rfl rfl ?_
  refine y_isSheet (fun g2 => ?_) (fun g2 => ?_)
  · skip
    refine r_if_eq k_123_5 (fun hz => absurd hz (by decide)) (fun _ => ?_)
    refine r_iload k_123_8 rfl ?_
    refine r_cnv (w := vL (n)) k_123_10 rfl ?_
    refine r_lconst k_123_11 ?_
    refine r_lconst k_123_12 ?_
    refine r_call (as := [vL (n), vL (0), vL (48)]) (r := []) k_123_15 rfl rfl rfl ?_
    refine t_in (fun g15 => ?_) (fun g15 => ?_)
    · skip
      refine r_if_ne k_123_18 (fun _ => ?_) (fun hz => absurd hz (by decide))
      refine r_aload k_123_23 rfl ?_
      refine r_iload k_123_24 rfl ?_
      refine r_iload k_123_25 rfl ?_
      refine r_iload k_123_26 rfl ?_
      refine r_iload k_123_27 rfl ?_
      refine r_call (as := [vR (27), vI (sh), vI (ln), vI (f), vI (n)]) (r := []) k_123_29 rfl rfl rfl ?_
      obtain ⟨s, hsh⟩ : ∃ s : Nat, sh = s := ⟨Int.toNat sh, by omega⟩
      have hs : s < 4 := by omega
      have b15 := hJ s hs
      refine y_found hsh hs (by omega) (by omega) (by omega) (by omega) ?_
      have hzn := zref_n (σ.2 16 s) (σ.2 15 s) ln f n
      refine r_istore (L' := [vR (27), vI (sh), vI (ln), vI (f), vI (n), vI ((zref (σ.2 16 s) (σ.2 15 s) ln f n)), vU]) k_123_32 rfl ?_
      refine r_const k_123_34 ?_
      refine r_istore (L' := [vR (27), vI (sh), vI (ln), vI (f), vI (n), vI ((zref (σ.2 16 s) (σ.2 15 s) ln f n)), vI (0)]) k_123_35 rfl ?_
      rcases hzn with hz | hz
      · rw [hz]
        have hz1 := zref_0 hz
        obtain ⟨F, hF⟩ : ∃ F : Nat, f = F := ⟨f.toNat, by omega⟩
        obtain ⟨N, hN⟩ : ∃ N : Nat, n = N := ⟨n.toNat, by omega⟩
        exact lp1 _ s F N 0 rfl (by omega) hsh hs (by omega) (by omega) hN (by omega) hz hF (by omega) (fun j hj => absurd hj (Nat.not_lt_zero _))
      · exact lpx 0 0 _ _ hz (q2 s hsh hs (by omega) (by omega) (by omega) (by omega) (by omega))
    · skip
      refine r_if_ne k_123_18 (fun hz => absurd hz (by decide)) (fun _ => ?_)
      refine r_const k_123_21 ?_
      refine r_iret k_123_22 ?_
      exact q1 (by omega)
  · skip
    refine r_if_eq k_123_5 (fun _ => ?_) (fun hz => absurd hz (by decide))
    refine r_const k_123_21 ?_
    refine r_iret k_123_22 ?_
    exact q1 (by omega)
theorem p_build {d : Nat} {σ : zM} (h : zInv σ) {sh ln f n : Int} (hf1 : -2147483648 ≤ f) (hf2 : f < 2147483648) : zC (d + 41) 68 [vR 0, vI sh, vI ln, vI f, vI n] σ (fun σ1 r1 => zC (d + 5) 123 [vR 27, vI sh, vI ln, vI f, vI n] σ1 (zpq σ1 r1)) := by
  have hI := h.2.2.2
  obtain ⟨C, law, least, draw, l, p, hg, hx, hy⟩ := h.1
  refine x_build (d := d + 38) hg hx hI (fun q => ?_) (fun s e hs u0 u2 n0 n48 g => ?_) (fun s F j e hs u0 u2 n0 n48 g eF jn gb τ ft => ?_) (fun s F N e hs u0 u2 n0 n48 g eF eN ga τ ft z => ?_)
  · exact y_build (d := d + 2) hg hy (zIh_J hI) hf1 hf2 (fun _ => ⟨⟨_, rfl, rfl⟩, h⟩) (fun s e hs u0 u2 n0 n48 => absurd ⟨⟨by omega, by omega⟩, ⟨u0, u2⟩, n0, n48⟩ q) (fun s F j e hs u0 u2 n0 n48 => absurd ⟨⟨by omega, by omega⟩, ⟨u0, u2⟩, n0, n48⟩ q) (fun s F N e hs u0 u2 n0 n48 => absurd ⟨⟨by omega, by omega⟩, ⟨u0, u2⟩, n0, n48⟩ q)
  · obtain ⟨b1, b2, b3, b4, b5⟩ := hI s hs
    refine y_build (d := d + 2) hg hy (zIh_J hI) hf1 hf2 (fun q => absurd ⟨⟨by omega, by omega⟩, ⟨u0, u2⟩, n0, n48⟩ q) (fun s2 e2 hs2 _ _ _ _ g2 => ?_) (fun s2 F j e2 hs2 _ _ _ _ g2 => ?_) (fun s2 F N e2 hs2 _ _ _ _ g2 => ?_)
    · obtain rfl : s2 = s := by omega
      exact ⟨⟨_, rfl, by rw [b2, b4]⟩, h⟩
    · obtain rfl : s2 = s := by omega
      rw [b2, b4] at g2
      exact absurd g2 g
    · obtain rfl : s2 = s := by omega
      rw [b2, b4] at g2
      exact absurd g2 g
  · have hI2 := zInv_fr h ft (by decide) (by decide)
    obtain ⟨b1, b2, b3, b4, b5⟩ := hI s hs
    have hy2 : zYn (τ.2 12) C law least draw l p := by rw [ft.2 12 (by decide)]; exact hy
    have hz := zref_0 g
    refine y_build (d := d + 2) hg hy2 (zIh_J hI2.2.2.2) hf1 hf2 (fun q => absurd ⟨⟨by omega, by omega⟩, ⟨u0, u2⟩, n0, n48⟩ q) (fun s2 e2 hs2 _ _ _ _ g2 => ?_) (fun s2 F2 j2 e2 hs2 _ _ _ _ g2 eF2 jn2 gb2 υ fu => ⟨⟨_, rfl, rfl⟩, zInv_fr hI2 fu (by decide) (by decide)⟩) (fun s2 F2 N e2 hs2 _ _ _ _ g2 eF2 eN ga => ?_)
    · obtain rfl : s2 = s := by omega
      rw [ft.2 16 (by decide), ft.2 15 (by decide), b2, b4] at g2
      exact absurd g g2
    · obtain rfl : s2 = s := by omega
      obtain rfl : F2 = F := by omega
      have := ga j (by omega)
      rw [ft.2 17 (by decide)] at this
      dsimp only at this
      rw [b5 _ (by omega)] at this
      exact absurd this gb
  · obtain ⟨b1, b2, b3, b4, b5⟩ := hI s hs
    have hy2 : zYn (τ.2 12) C law least draw l p := by rw [ft.2 12 (by decide)]; exact hy
    have hz := zref_0 g
    refine y_build (d := d + 2) hg hy2 (fun s2 hs2 => by rw [ft.2 15 (by decide)]; exact zIh_J hI s2 hs2) hf1 hf2 (fun q => absurd ⟨⟨by omega, by omega⟩, ⟨u0, u2⟩, n0, n48⟩ q) (fun s2 e2 hs2 _ _ _ _ g2 => ?_) (fun s2 F2 j2 e2 hs2 _ _ _ _ g2 eF2 jn2 gb2 υ fu => ?_) (fun s2 F2 N2 e2 hs2 _ _ _ _ g2 eF2 eN2 ga2 υ fu hY => ⟨⟨_, rfl, rfl⟩, ?_⟩)
    · obtain rfl : s2 = s := by omega
      rw [ft.2 16 (by decide), ft.2 15 (by decide), b2, b4] at g2
      exact absurd g g2
    · obtain rfl : s2 = s := by omega
      obtain rfl : F2 = F := by omega
      rw [ft.2 17 (by decide)] at gb2
      dsimp only at gb2
      rw [b5 _ (by omega)] at gb2
      exact absurd (ga j2 (by omega)) gb2
    · obtain rfl : s2 = s := by omega
      obtain rfl : F2 = F := by omega
      obtain rfl : N2 = N := by omega
      have F : zfr [0, 2] [0, 2, 12] σ υ := zfr_tr ft fu (by decide) (by decide)
      have ez : zmk (fun j => τ.2 17 (48 * s2 + j)) F2 N2 = zmk (σ.2 (7 + s2)) F2 N2 := zmk_congr _ (fun j hj => by rw [ft.2 17 (by decide), b5 _ (by omega)])
      rw [ez] at hY
      refine ⟨⟨C, law, least, draw, zmk (σ.2 (7 + s2)) F2 N2, p, ⟨hg.1, hg.2.1, by rw [zmk_len]; omega, fun x hx0 => ?_, hg.2.2.2.2⟩, ⟨zrl_fr hx.1 F (by decide), zis_fr z fu (by decide) (by decide), zpr_fr hx.2.2.1 F (by decide), (F.1 10 (by decide)).trans hx.2.2.2⟩, hY⟩, zOth_fr h.2 F (by decide) (by decide)⟩
      obtain ⟨j, hj, rfl⟩ := zmk_mem hx0
      exact ga j hj
