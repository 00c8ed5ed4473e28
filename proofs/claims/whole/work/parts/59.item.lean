/-! item: the two alike -/
theorem s_sput {d : Nat} {σ : zM} {K : zM → Option zV → Prop} {s : Nat} (hs : s < 4) {i v : Int} (q1 : 0 ≤ i → i < 48 → K (zsetA σ (7 + s) (zup (σ.2 (7 + s)) i.toNat (zln (σ.1 (14 + 2 * s)) v))) none) (q2 : i < 0 ∨ 48 ≤ i → K σ none) : zC (d + 1) 22 [vR (zshp s), vI (i), vI (v)] σ K := by
  refine zC_in rfl ?_
  show zG (d) 22 K 0 zfx (0, [vR (zshp s), vI (i), vI (v)], [], σ)
  refine r_iload k_22_0 rfl ?_
  refine r_if_lt k_22_1 (fun h1 => ?_) (fun h1 => ?_)
  · skip
    refine r_vret k_22_13 ?_
    exact q2 (by omega)
  · skip
    refine r_iload k_22_4 rfl ?_
    refine r_aload k_22_5 rfl ?_
    refine r_getR (q := zit s) k_22_6 (zsh_0 hs) ?_
    refine r_alen (n := 48) (g := (7 + s)) k_22_9 (zit_a hs) ?_
    refine r_ic_lt k_22_10 (fun h10 => ?_) (fun h10 => ?_)
    · skip
      refine r_aload k_22_14 rfl ?_
      refine r_getS (v := σ.1 ((14 + 2 * s))) k_22_15 (zsh_1 hs) rfl ?_
      refine r_if_ne k_22_18 (fun h18 => ?_) (fun h18 => ?_)
      · skip
        refine r_aload k_22_32 rfl ?_
        refine r_getS (v := σ.1 ((14 + 2 * s))) k_22_33 (zsh_1 hs) rfl ?_
        refine r_const k_22_36 ?_
        refine r_ic_ne k_22_37 (fun h37 => ?_) (fun h37 => ?_)
        · skip
          refine r_aload k_22_51 rfl ?_
          refine r_getR (q := zit s) k_22_52 (zsh_0 hs) ?_
          refine r_iload k_22_55 rfl ?_
          refine r_iload k_22_56 rfl ?_
          refine r_iast k_22_57 (zit_a hs) ⟨by omega, by omega⟩ ?_
          refine r_vret k_22_58 ?_
          have e : zln (σ.1 (14 + 2 * s)) v = v := by unfold zln; (repeat' split) <;> first | rfl | omega
          rw [e] at q1
          exact q1 (by omega) (by omega)
        · skip
          refine r_aload k_22_40 rfl ?_
          refine r_getR (q := zit s) k_22_41 (zsh_0 hs) ?_
          refine r_iload k_22_44 rfl ?_
          refine r_iload k_22_45 rfl ?_
          refine r_cnv (w := vI ((Int32.ofInt v).toInt16.toInt32.toInt)) k_22_46 rfl ?_
          refine r_iast k_22_47 (zit_a hs) ⟨by omega, by omega⟩ ?_
          refine r_goto k_22_48 ?_
          refine r_vret k_22_58 ?_
          have e : zln (σ.1 (14 + 2 * s)) v = ((Int32.ofInt v).toInt16.toInt32.toInt) := by unfold zln; (repeat' split) <;> first | rfl | omega
          rw [e] at q1
          exact q1 (by omega) (by omega)
      · skip
        refine r_aload k_22_21 rfl ?_
        refine r_getR (q := zit s) k_22_22 (zsh_0 hs) ?_
        refine r_iload k_22_25 rfl ?_
        refine r_iload k_22_26 rfl ?_
        refine r_cnv (w := vI ((Int32.ofInt v).toInt8.toInt32.toInt)) k_22_27 rfl ?_
        refine r_iast k_22_28 (zit_a hs) ⟨by omega, by omega⟩ ?_
        refine r_goto k_22_29 ?_
        refine r_vret k_22_58 ?_
        have e : zln (σ.1 (14 + 2 * s)) v = ((Int32.ofInt v).toInt8.toInt32.toInt) := by unfold zln; (repeat' split) <;> first | rfl | omega
        rw [e] at q1
        exact q1 (by omega) (by omega)
    · skip
      refine r_vret k_22_13 ?_
      exact q2 (by omega)
theorem zref_0 {ln len lane f n : Int} (h : zref ln len lane f n = 0) : ln = lane ∧ 0 ≤ f ∧ f + n ≤ len := by
  unfold zref at h
  split at h
  · omega
  · split at h
    · omega
    · split at h <;> omega
theorem zref_n (ln len lane f n : Int) : zref ln len lane f n = 0 ∨ zref ln len lane f n < 0 := by
  unfold zref
  (repeat' split) <;> omega
theorem x_item {d : Nat} {σ : zM} {K : zM → Option zV → Prop} (hI : zIh σ) {sh ln i v : Int} (q1 : ¬ ((0 ≤ sh ∧ sh < 4) ∧ 0 ≤ ln ∧ ln ≤ 2) → K σ (some (vI (-1)))) (q2 : ∀ s : Nat, sh = s → s < 4 → 0 ≤ ln → ln ≤ 2 → zref (σ.1 (14 + 2 * s)) (σ.1 (15 + 2 * s)) ln i 1 ≠ 0 → K σ (some (vI (zref (σ.1 (14 + 2 * s)) (σ.1 (15 + 2 * s)) ln i 1)))) (q3 : ∀ s : Nat, sh = s → s < 4 → 0 ≤ ln → ln ≤ 2 → zref (σ.1 (14 + 2 * s)) (σ.1 (15 + 2 * s)) ln i 1 = 0 → K (zsetA σ (7 + s) (zup (σ.2 (7 + s)) i.toNat (zln ln v))) (some (vI 1))) : zC (d + 2 + 1) 72 [vR (0), vI (sh), vI (ln), vI (i), vI (v)] σ K := by
  refine zC_in rfl ?_
  show zG (d + 2) 72 K 0 zfx (0, [vR (0), vI (sh), vI (ln), vI (i), vI (v), vU, vU], [], σ)
  refine r_aload k_72_0 rfl ?_
  refine r_iload k_72_1 rfl ?_
  refine r_call (as := [vR (0), vI (sh)]) (r := []) k_72_2 rfl rfl rfl ?_
  refine s_page (fun s e2 hs => ?_) (fun g2 => ?_)
  · skip
    obtain ⟨b1, b2, b3, b4, b5⟩ := hI s hs
    refine r_astore (L' := [vR (0), vI (sh), vI (ln), vI (i), vI (v), vR (zshp s), vU]) k_72_5 rfl ?_
    refine r_aload k_72_7 rfl ?_
    refine r_iload k_72_9 rfl ?_
    refine r_iload k_72_10 rfl ?_
    refine r_const k_72_11 ?_
    refine r_call (as := [vR (zshp s), vI (ln), vI (i), vI (1)]) (r := []) k_72_12 rfl rfl rfl ?_
    refine s_refs hs (by omega) b1 (fun g12 => ?_) (fun g12 u12 => ?_)
    · skip
      refine r_istore (L' := [vR (0), vI (sh), vI (ln), vI (i), vI (v), vR (zshp s), vI (-1)]) k_72_15 rfl ?_
      refine r_aload k_72_17 rfl ?_
      refine r_null k_72_19 ?_
      refine r_iload k_72_22 rfl ?_
      refine r_if_eq k_72_24 (fun hz => absurd hz (by decide)) (fun _ => ?_)
      refine r_iload k_72_27 rfl ?_
      refine r_iret k_72_29 ?_
      exact q1 (by omega)
    · skip
      have hzn := zref_n (σ.1 (14 + 2 * s)) (σ.1 (15 + 2 * s)) ln i 1
      refine r_istore (L' := [vR (0), vI (sh), vI (ln), vI (i), vI (v), vR (zshp s), vI ((zref (σ.1 (14 + 2 * s)) (σ.1 (15 + 2 * s)) ln i 1))]) k_72_15 rfl ?_
      refine r_aload k_72_17 rfl ?_
      refine r_null k_72_19 ?_
      refine r_iload k_72_22 rfl ?_
      refine r_if_eq k_72_24 (fun h24 => ?_) (fun h24 => ?_)
      · skip
        refine r_aload k_72_30 rfl ?_
        refine r_iload k_72_32 rfl ?_
        refine r_iload k_72_33 rfl ?_
        refine r_call (as := [vR (zshp s), vI (i), vI (v)]) (r := []) k_72_35 rfl (zrcv_o rfl (zsh_c hs)) rfl ?_
        have hz0 := zref_0 (ln := σ.1 (14 + 2 * s)) (len := σ.1 (15 + 2 * s)) (lane := ln) (f := i) (n := 1) (by omega)
        refine s_sput hs (fun _ _ => ?_) (fun q => by omega)
        rw [hz0.1]
        refine r_const k_72_38 ?_
        refine r_iret k_72_39 ?_
        exact q3 s (by omega) hs (by omega) (by omega) (by omega)
      · skip
        refine r_iload k_72_27 rfl ?_
        refine r_iret k_72_29 ?_
        exact q2 s (by omega) hs (by omega) (by omega) (by omega)
  · skip
    refine r_astoreN (L' := [vR (0), vI (sh), vI (ln), vI (i), vI (v), vN, vU]) k_72_5 rfl ?_
    refine r_aloadN k_72_7 rfl ?_
    refine r_iload k_72_9 rfl ?_
    refine r_iload k_72_10 rfl ?_
    refine r_const k_72_11 ?_
    refine r_call (as := [vN, vI (ln), vI (i), vI (1)]) (r := []) k_72_12 rfl rfl rfl ?_
    refine s_refn ?_
    refine r_istore (L' := [vR (0), vI (sh), vI (ln), vI (i), vI (v), vN, vI (-1)]) k_72_15 rfl ?_
    refine r_aloadN k_72_17 rfl ?_
    refine r_nullN k_72_19 ?_
    refine r_iload k_72_27 rfl ?_
    refine r_iret k_72_29 ?_
    exact q1 (by omega)
theorem y_item {d : Nat} {σ : zM} {K : zM → Option zV → Prop} (hJ : ∀ s, s < 4 → -1 ≤ σ.2 15 s ∧ σ.2 15 s ≤ 48) {sh ln i v : Int} (hi1 : -2147483648 ≤ i) (hi2 : i < 2147483648) (q1 : ¬ ((0 ≤ sh ∧ sh < 4) ∧ 0 ≤ ln ∧ ln ≤ 2) → K σ (some (vI (-1)))) (q2 : ∀ s : Nat, sh = s → s < 4 → 0 ≤ ln → ln ≤ 2 → zref (σ.2 16 s) (σ.2 15 s) ln i 1 ≠ 0 → K σ (some (vI (zref (σ.2 16 s) (σ.2 15 s) ln i 1)))) (q3 : ∀ s : Nat, sh = s → s < 4 → 0 ≤ ln → ln ≤ 2 → zref (σ.2 16 s) (σ.2 15 s) ln i 1 = 0 → ∀ N : Nat, N = 48 * s + i.toNat → K (zsetA σ 17 (zup (σ.2 17) N (zln ln v))) (some (vI 1))) : zC (d + 2 + 1) 127 [vR (27), vI (sh), vI (ln), vI (i), vI (v)] σ K := by
  refine zC_in rfl ?_
  show zG (d + 2) 127 K 0 zfx (0, [vR (27), vI (sh), vI (ln), vI (i), vI (v), vU], [], σ)
  refine r_iload k_127_0 rfl ?_
  refine r_iload k_127_1 rfl ?_
  refine r_call (as := [vI (sh), vI (ln)]) (r := []) k_127_2 rfl rfl rfl ?_
  refine y_isSheet (fun g2 => ?_) (fun g2 => ?_)
  · skip
    refine r_if_ne k_127_5 (fun _ => ?_) (fun hz => absurd hz (by decide))
    refine r_aload k_127_10 rfl ?_
    refine r_iload k_127_11 rfl ?_
    refine r_iload k_127_12 rfl ?_
    refine r_iload k_127_13 rfl ?_
    refine r_const k_127_14 ?_
    refine r_call (as := [vR (27), vI (sh), vI (ln), vI (i), vI (1)]) (r := []) k_127_15 rfl rfl rfl ?_
    obtain ⟨s, hsh⟩ : ∃ s : Nat, sh = s := ⟨Int.toNat sh, by omega⟩
    have hs : s < 4 := by omega
    have b15 := hJ s hs
    refine y_found hsh hs (by omega) (by omega) (by omega) (by omega) ?_
    have hzn := zref_n (σ.2 16 s) (σ.2 15 s) ln i 1
    have hz0 : zref (σ.2 16 s) (σ.2 15 s) ln i 1 = 0 → _ := zref_0
    refine r_istore (L' := [vR (27), vI (sh), vI (ln), vI (i), vI (v), vI ((zref (σ.2 16 s) (σ.2 15 s) ln i 1))]) k_127_18 rfl ?_
    refine r_iload k_127_20 rfl ?_
    refine r_if_ge k_127_22 (fun h22 => ?_) (fun h22 => ?_)
    · skip
      refine r_aload k_127_28 rfl ?_
      refine r_getR (q := 33) k_127_29 ⟨rfl, rfl⟩ ?_
      refine r_const k_127_32 ?_
      refine r_iload k_127_34 rfl ?_
      refine r_bin (v := 48 * sh) k_127_35 (zb_mul ⟨by omega, by omega⟩) ?_
      refine r_iload k_127_36 rfl ?_
      refine r_bin (v := 48 * sh + i) k_127_37 (zb_add ⟨by have := hz0 (by omega); omega, by have := hz0 (by omega); omega⟩) ?_
      refine r_iload k_127_38 rfl ?_
      refine r_if_ne k_127_39 (fun h39 => ?_) (fun h39 => ?_)
      · skip
        refine r_iload k_127_48 rfl ?_
        refine r_const k_127_49 ?_
        refine r_ic_ne k_127_50 (fun h50 => ?_) (fun h50 => ?_)
        · skip
          refine r_iload k_127_59 rfl ?_
          refine r_iast k_127_61 ⟨rfl, rfl⟩ ⟨by have := hz0 (by omega); omega, by have := hz0 (by omega); omega⟩ ?_
          refine r_const k_127_62 ?_
          refine r_iret k_127_63 ?_
          have e : zln ln v = v := by unfold zln; (repeat' split) <;> first | rfl | omega
          rw [e] at q3
          exact q3 s hsh hs (by omega) (by omega) (by omega) _ (by omega)
        · skip
          refine r_iload k_127_53 rfl ?_
          refine r_cnv (w := vI ((Int32.ofInt v).toInt16.toInt32.toInt)) k_127_55 rfl ?_
          refine r_goto k_127_56 ?_
          refine r_iast k_127_61 ⟨rfl, rfl⟩ ⟨by have := hz0 (by omega); omega, by have := hz0 (by omega); omega⟩ ?_
          refine r_const k_127_62 ?_
          refine r_iret k_127_63 ?_
          have e : zln ln v = ((Int32.ofInt v).toInt16.toInt32.toInt) := by unfold zln; (repeat' split) <;> first | rfl | omega
          rw [e] at q3
          exact q3 s hsh hs (by omega) (by omega) (by omega) _ (by omega)
      · skip
        refine r_iload k_127_42 rfl ?_
        refine r_cnv (w := vI ((Int32.ofInt v).toInt8.toInt32.toInt)) k_127_44 rfl ?_
        refine r_goto k_127_45 ?_
        refine r_iast k_127_61 ⟨rfl, rfl⟩ ⟨by have := hz0 (by omega); omega, by have := hz0 (by omega); omega⟩ ?_
        refine r_const k_127_62 ?_
        refine r_iret k_127_63 ?_
        have e : zln ln v = ((Int32.ofInt v).toInt8.toInt32.toInt) := by unfold zln; (repeat' split) <;> first | rfl | omega
        rw [e] at q3
        exact q3 s hsh hs (by omega) (by omega) (by omega) _ (by omega)
    · skip
      refine r_iload k_127_25 rfl ?_
      refine r_iret k_127_27 ?_
      exact q2 s hsh hs (by omega) (by omega) (by omega)
  · skip
    refine r_if_ne k_127_5 (fun hz => absurd hz (by decide)) (fun _ => ?_)
    refine r_const k_127_8 ?_
    refine r_iret k_127_9 ?_
    exact q1 (by omega)
theorem zIh_J {σ : zM} (h : zIh σ) : ∀ s, s < 4 → -1 ≤ σ.2 15 s ∧ σ.2 15 s ≤ 48 := fun s hs => by
  obtain ⟨b1, b2, b3, b4, b5⟩ := h s hs
  omega
theorem p_item {d : Nat} {σ : zM} (h : zInv σ) {sh ln i v : Int} (hi1 : -2147483648 ≤ i) (hi2 : i < 2147483648) : zC (d + 41) 72 [vR 0, vI sh, vI ln, vI i, vI v] σ (fun σ1 r1 => zC (d + 5) 127 [vR 27, vI sh, vI ln, vI i, vI v] σ1 (zpq σ1 r1)) := by
  have hI := h.2.2.2
  refine x_item (d := d + 38) hI (fun q => ?_) (fun s e hs u0 u2 g => ?_) (fun s e hs u0 u2 g => ?_)
  · exact y_item (d := d + 2) (zIh_J hI) hi1 hi2 (fun _ => ⟨⟨_, rfl, rfl⟩, h⟩) (fun s e hs u0 u2 => absurd ⟨⟨by omega, by omega⟩, u0, u2⟩ q) (fun s e hs u0 u2 => absurd ⟨⟨by omega, by omega⟩, u0, u2⟩ q)
  · obtain ⟨b1, b2, b3, b4, b5⟩ := hI s hs
    refine y_item (d := d + 2) (zIh_J hI) hi1 hi2 (fun q => absurd ⟨⟨by omega, by omega⟩, u0, u2⟩ q) (fun s2 e2 hs2 _ _ g2 => ?_) (fun s2 e2 hs2 _ _ g2 => ?_)
    · obtain rfl : s2 = s := by omega
      exact ⟨⟨_, rfl, by rw [b2, b4]⟩, h⟩
    · obtain rfl : s2 = s := by omega
      rw [b2, b4] at g2
      exact absurd g2 g
  · obtain ⟨b1, b2, b3, b4, b5⟩ := hI s hs
    refine y_item (d := d + 2) (σ := zsetA σ (7 + s) (zup (σ.2 (7 + s)) i.toNat (zln ln v))) (fun s2 hs2 => by rw [zA_n (by omega)]; exact zIh_J hI s2 hs2) hi1 hi2 (fun q => absurd ⟨⟨by omega, by omega⟩, u0, u2⟩ q) (fun s2 e2 hs2 _ _ g2 => ?_) (fun s2 e2 hs2 _ _ g2 N hN => ⟨⟨_, rfl, rfl⟩, ?_⟩)
    · obtain rfl : s2 = s := by omega
      rw [zA_n (by omega), zA_n (by omega), b2, b4] at g2
      exact absurd g g2
    · obtain rfl : s2 = s := by omega
      have hz := zref_0 g
      have F : zfr [] [7 + s2, 17] σ (zsetA (zsetA σ (7 + s2) (zup (σ.2 (7 + s2)) i.toNat (zln ln v))) 17 (zup ((zsetA σ (7 + s2) (zup (σ.2 (7 + s2)) i.toNat (zln ln v))).2 17) N (zln ln v))) := zfr_A (zfr_A zfr_rf (by simp)) (by simp)
      refine zInv_sh h F (fun n hn => by cases hn) (fun n hn => ?_) (zIh_mk (s0 := s2) hI (fun s hs3 hs4 => ⟨⟨rfl, rfl⟩, ?_, ?_, ?_, fun k hk => ?_⟩) ⟨b1, ?_, b3, ?_, fun k hk => ?_⟩)
      · simp at hn; omega
      · exact F.2 _ (by simp; omega)
      · exact congrFun (F.2 15 (by simp; omega)) s
      · exact congrFun (F.2 16 (by simp; omega)) s
      · rw [zA_2, zup_n (by omega), zA_n (by omega)]
      · exact (congrFun (F.2 15 (by simp; omega)) s2).trans b2
      · exact (congrFun (F.2 16 (by simp; omega)) s2).trans b4
      · rw [zA_2, zA_n (b := 7 + s2) (by omega), zA_2, zA_n (by omega)]
        by_cases hk2 : k = i.toNat
        · subst hk2; rw [zup_1, hN, zup_1]
        · rw [zup_n hk2, zup_n (by omega)]; exact b5 k hk
