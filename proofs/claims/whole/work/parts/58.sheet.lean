/-! sheet: the two alike -/
theorem s_renew {d : Nat} {σ : zM} {K : zM → Option zV → Prop} {s : Nat} (hs : s < 4) {ln n : Int} (q1 : ∀ τ, zfr [14 + 2 * s, 15 + 2 * s] [7 + s] σ τ → τ.1 (14 + 2 * s) = ln → τ.1 (15 + 2 * s) = n → (∀ k, k < 48 → τ.2 (7 + s) k = 0) → K τ none) : zC (d + 1) 23 [vR (zshp s), vI (ln), vI (n)] σ K := by
  refine zC_in rfl ?_
  have lp : ∀ (m : Nat) (i : Nat) (τ : zM), 48 - i = m → i ≤ 48 → zfr [14 + 2 * s, 15 + 2 * s] [7 + s] σ τ → τ.1 (14 + 2 * s) = ln → τ.1 (15 + 2 * s) = n → (∀ j, j < i → τ.2 (7 + s) j = 0) → zG (d) 23 K 0 zfx (12, [vR (zshp s), vI (ln), vI (n), vI ((i : Int))], [], τ) := by
    intro m
    induction m using Nat.strongRecOn with
    | _ m ih =>
    intro i τ hn g1 hf e1 e2 ha
    refine r_iload k_23_12 rfl ?_
    refine r_aload k_23_13 rfl ?_
    refine r_getR (q := zit s) k_23_14 (zsh_0 hs) ?_
    refine r_alen (n := 48) (g := (7 + s)) k_23_17 (zit_a hs) ?_
    refine r_ic_ge k_23_18 (fun h18 => ?_) (fun h18 => ?_)
    · skip
      refine r_vret k_23_34 ?_
      exact q1 _ hf e1 e2 (fun j hj => ha j (by omega))
    · skip
      refine r_aload k_23_21 rfl ?_
      refine r_getR (q := zit s) k_23_22 (zsh_0 hs) ?_
      refine r_iload k_23_25 rfl ?_
      refine r_const k_23_26 ?_
      refine r_iast k_23_27 (zit_a hs) ⟨by omega, by omega⟩ ?_
      refine r_iinc (v := (i : Int) + 1) (L' := [vR (zshp s), vI (ln), vI (n), vI ((i : Int) + 1)]) k_23_28 rfl (zb_add ⟨by omega, by omega⟩) rfl ?_
      refine r_goto k_23_31 ?_
      refine ih _ (by omega) (i + 1) _ rfl (by omega) (zfr_A hf (by simp)) e1 e2 (fun j hj => ?_)
      rw [zA_2, show ((i : Nat) : Int).toNat = i by omega]
      by_cases hji : j = i
      · subst hji; exact zup_1 _ _ _
      · rw [zup_n hji]; exact ha j (by omega)
  show zG (d) 23 K 0 zfx (0, [vR (zshp s), vI (ln), vI (n), vU], [], σ)
  refine r_aload k_23_0 rfl ?_
  refine r_iload k_23_1 rfl ?_
  refine r_putS k_23_2 (zsh_1 hs) ?_
  refine r_aload k_23_5 rfl ?_
  refine r_iload k_23_6 rfl ?_
  refine r_putS k_23_7 (zsh_2 hs) ?_
  refine r_const k_23_10 ?_
  refine r_istore (L' := [vR (zshp s), vI (ln), vI (n), vI (0)]) k_23_11 rfl ?_
  exact lp _ 0 _ rfl (by omega) (zfr_S (zfr_S zfr_rf (by simp)) (by simp)) (by rw [zS_n (by omega), zS_1]) (zS_1 _ _ _) (fun j hj => by omega)
theorem x_sheet {d : Nat} {σ : zM} {K : zM → Option zV → Prop} (hI : zIh σ) {v u n : Int} (q1 : ¬ ((0 ≤ v ∧ v < 4) ∧ (0 ≤ u ∧ u ≤ 2) ∧ n ≤ 48) → K σ (some (vI (-1)))) (q2 : (0 ≤ v ∧ v < 4) ∧ (0 ≤ u ∧ u ≤ 2) ∧ n < 0 → K σ (some (vI (-14)))) (q3 : ∀ s : Nat, v = s → s < 4 → 0 ≤ u → u ≤ 2 → 0 ≤ n → n ≤ 48 → ∀ τ, zfr [14 + 2 * s, 15 + 2 * s] [7 + s] σ τ → τ.1 (14 + 2 * s) = u → τ.1 (15 + 2 * s) = n → (∀ k, k < 48 → τ.2 (7 + s) k = 0) → K τ (some (vI n))) : zC (d + 1 + 1) 70 [vR (0), vI (v), vI (u), vI (n)] σ K := by
  refine zC_in rfl ?_
  show zG (d + 1) 70 K 0 zfx (0, [vR (0), vI (v), vI (u), vI (n), vU], [], σ)
  refine r_aload k_70_0 rfl ?_
  refine r_iload k_70_1 rfl ?_
  refine r_call (as := [vR (0), vI (v)]) (r := []) k_70_2 rfl rfl rfl ?_
  refine s_page (fun s e2 hs => ?_) (fun g2 => ?_)
  · skip
    obtain ⟨b1, b2, b3, b4, b5⟩ := hI s hs
    refine r_astore (L' := [vR (0), vI (v), vI (u), vI (n), vR (zshp s)]) k_70_5 rfl ?_
    refine r_aload k_70_7 rfl ?_
    refine r_null k_70_9 ?_
    refine r_iload k_70_12 rfl ?_
    refine r_call (as := [vI (u)]) (r := []) k_70_13 rfl rfl rfl ?_
    refine s_lane (fun g13 => ?_) (fun g13 => ?_)
    · skip
      refine r_if_eq k_70_16 (fun hz => absurd hz (by decide)) (fun _ => ?_)
      refine r_iload k_70_19 rfl ?_
      refine r_const k_70_20 ?_
      refine r_ic_le k_70_22 (fun h22 => ?_) (fun h22 => ?_)
      · skip
        refine r_iload k_70_27 rfl ?_
        refine r_if_ge k_70_28 (fun h28 => ?_) (fun h28 => ?_)
        · skip
          refine r_aload k_70_34 rfl ?_
          refine r_iload k_70_36 rfl ?_
          refine r_iload k_70_37 rfl ?_
          refine r_call (as := [vR (zshp s), vI (u), vI (n)]) (r := []) k_70_38 rfl (zrcv_o rfl (zsh_c hs)) rfl ?_
          refine s_renew hs (fun τ1 f1 e1 e2 ha => ?_)
          refine r_iload k_70_41 rfl ?_
          refine r_iret k_70_42 ?_
          exact q3 s (by omega) hs (by omega) (by omega) (by omega) (by omega) _ f1 e1 e2 ha
        · skip
          refine r_const k_70_31 ?_
          refine r_iret k_70_33 ?_
          exact q2 (by omega)
      · skip
        refine r_const k_70_25 ?_
        refine r_iret k_70_26 ?_
        exact q1 (by omega)
    · skip
      refine r_if_eq k_70_16 (fun _ => ?_) (fun hz => absurd hz (by decide))
      refine r_const k_70_25 ?_
      refine r_iret k_70_26 ?_
      exact q1 (by omega)
  · skip
    refine r_astoreN (L' := [vR (0), vI (v), vI (u), vI (n), vN]) k_70_5 rfl ?_
    refine r_aloadN k_70_7 rfl ?_
    refine r_nullN k_70_9 ?_
    refine r_const k_70_25 ?_
    refine r_iret k_70_26 ?_
    exact q1 (by omega)
theorem y_sheet {d : Nat} {σ : zM} {K : zM → Option zV → Prop} {v u n : Int} (q1 : ¬ ((0 ≤ v ∧ v < 4) ∧ (0 ≤ u ∧ u ≤ 2) ∧ n ≤ 48) → K σ (some (vI (-1)))) (q2 : (0 ≤ v ∧ v < 4) ∧ (0 ≤ u ∧ u ≤ 2) ∧ n < 0 → K σ (some (vI (-14)))) (q3 : ∀ s : Nat, v = s → s < 4 → 0 ≤ u → u ≤ 2 → 0 ≤ n → n ≤ 48 → ∀ τ, zfr [] [15, 16, 17] σ τ → τ.2 15 = zup (σ.2 15) s n → τ.2 16 = zup (σ.2 16) s u → (∀ k, k < 48 → τ.2 17 (48 * s + k) = 0) → (∀ j, j < 48 * s ∨ 48 * s + 48 ≤ j → τ.2 17 j = σ.2 17 j) → K τ (some (vI n))) : zC (d + 2 + 1) 125 [vR (27), vI (v), vI (u), vI (n)] σ K := by
  refine zC_in rfl ?_
  have lp : ∀ (m : Nat) (s i : Nat) (τ : zM), 48 - i = m → i ≤ 48 → v = s → s < 4 → 0 ≤ u → u ≤ 2 → 0 ≤ n → n ≤ 48 → zfr [] [15, 16, 17] σ τ → τ.2 15 = zup (σ.2 15) s n → τ.2 16 = zup (σ.2 16) s u → (∀ k, k < i → τ.2 17 (48 * s + k) = 0) → (∀ j, j < 48 * s ∨ 48 * s + 48 ≤ j → τ.2 17 j = σ.2 17 j) → zG (d + 2) 125 K 0 zfx (40, [vR (27), vI (v), vI (u), vI (n), vI ((i : Int))], [], τ) := by
    intro m
    induction m using Nat.strongRecOn with
    | _ m ih =>
    intro s i τ hm g1 hv hs u0 u2 n0 n48 hf e1 e2 ha ho
    refine r_iload k_125_40 rfl ?_
    refine r_const k_125_42 ?_
    refine r_ic_ge k_125_44 (fun h44 => ?_) (fun h44 => ?_)
    · skip
      refine r_iload k_125_66 rfl ?_
      refine r_iret k_125_67 ?_
      exact q3 s hv hs (by omega) (by omega) (by omega) (by omega) _ hf e1 e2 (fun j hj => ha j (by omega)) ho
    · skip
      refine r_aload k_125_47 rfl ?_
      refine r_getR (q := 33) k_125_48 ⟨rfl, rfl⟩ ?_
      refine r_const k_125_51 ?_
      refine r_iload k_125_53 rfl ?_
      refine r_bin (v := 48 * v) k_125_54 (zb_mul ⟨by omega, by omega⟩) ?_
      refine r_iload k_125_55 rfl ?_
      refine r_bin (v := 48 * v + ((i : Int))) k_125_57 (zb_add ⟨by omega, by omega⟩) ?_
      refine r_const k_125_58 ?_
      refine r_iast k_125_59 ⟨rfl, rfl⟩ ⟨by omega, by omega⟩ ?_
      refine r_iinc (v := (i : Int) + 1) (L' := [vR (27), vI (v), vI (u), vI (n), vI ((i : Int) + 1)]) k_125_60 rfl (zb_add ⟨by omega, by omega⟩) rfl ?_
      refine r_goto k_125_63 ?_
      refine ih _ (by omega) s (i + 1) _ rfl (by omega) hv hs u0 u2 n0 n48 (zfr_A hf (by decide)) e1 e2 (fun j hj => ?_) (fun j hj => ?_)
      · rw [zA_2]
        by_cases hji : j = i
        · subst hji; rw [show (48 * v + (j : Int)).toNat = 48 * s + j by omega, zup_1]
        · rw [zup_n (by omega)]; exact ha j (by omega)
      · rw [zA_2, zup_n (by omega)]; exact ho j hj
  show zG (d + 2) 125 K 0 zfx (0, [vR (27), vI (v), vI (u), vI (n), vU], [], σ)
  refine r_iload k_125_0 rfl ?_
  refine r_iload k_125_1 rfl ?_
  refine r_call (as := [vI (v), vI (u)]) (r := []) k_125_2 rfl rfl rfl ?_
  refine y_isSheet (fun g2 => ?_) (fun g2 => ?_)
  · skip
    refine r_if_eq k_125_5 (fun hz => absurd hz (by decide)) (fun _ => ?_)
    refine r_iload k_125_8 rfl ?_
    refine r_const k_125_9 ?_
    refine r_ic_le k_125_11 (fun h11 => ?_) (fun h11 => ?_)
    · skip
      refine r_iload k_125_16 rfl ?_
      refine r_if_ge k_125_17 (fun h17 => ?_) (fun h17 => ?_)
      · skip
        refine r_aload k_125_23 rfl ?_
        refine r_getR (q := 31) k_125_24 ⟨rfl, rfl⟩ ?_
        refine r_iload k_125_27 rfl ?_
        refine r_iload k_125_28 rfl ?_
        refine r_iast k_125_29 ⟨rfl, rfl⟩ ⟨by omega, by omega⟩ ?_
        refine r_aload k_125_30 rfl ?_
        refine r_getR (q := 32) k_125_31 ⟨rfl, rfl⟩ ?_
        refine r_iload k_125_34 rfl ?_
        refine r_iload k_125_35 rfl ?_
        refine r_iast k_125_36 ⟨rfl, rfl⟩ ⟨by omega, by omega⟩ ?_
        refine r_const k_125_37 ?_
        refine r_istore (L' := [vR (27), vI (v), vI (u), vI (n), vI (0)]) k_125_38 rfl ?_
        obtain ⟨s, hv⟩ : ∃ s : Nat, v = s := ⟨v.toNat, by omega⟩
        refine lp _ s 0 _ rfl (by omega) hv (by omega) (by omega) (by omega) (by omega) (by omega) (zfr_A (zfr_A zfr_rf (by decide)) (by decide)) ?_ ?_ (fun j hj => by omega) (fun j _ => rfl)
        · rw [zA_n (by decide), zA_2, show v.toNat = s by omega]
        · rw [zA_2, show v.toNat = s by omega]; rfl
      · skip
        refine r_const k_125_20 ?_
        refine r_iret k_125_22 ?_
        exact q2 (by omega)
    · skip
      refine r_const k_125_14 ?_
      refine r_iret k_125_15 ?_
      exact q1 (by omega)
  · skip
    refine r_if_eq k_125_5 (fun _ => ?_) (fun hz => absurd hz (by decide))
    refine r_const k_125_14 ?_
    refine r_iret k_125_15 ?_
    exact q1 (by omega)
theorem p_sheet {d : Nat} {σ : zM} (h : zInv σ) {v u n : Int} : zC (d + 41) 70 [vR 0, vI v, vI u, vI n] σ (fun σ1 r1 => zC (d + 5) 125 [vR 27, vI v, vI u, vI n] σ1 (zpq σ1 r1)) := by
  have hI := h.2.2.2
  refine x_sheet (d := d + 39) hI (fun q => ?_) (fun q => ?_) (fun s e hs u0 u2 n0 n48 τ f e1 e2 ha => ?_)
  · exact y_sheet (d := d + 2) (fun _ => ⟨⟨_, rfl, rfl⟩, h⟩) (fun q2 => absurd ⟨q2.1, q2.2.1, by omega⟩ q) (fun s e hs u0 u2 n0 n48 => absurd ⟨⟨by omega, by omega⟩, ⟨u0, u2⟩, n48⟩ q)
  · exact y_sheet (d := d + 2) (fun q2 => absurd ⟨q.1, q.2.1, by omega⟩ q2) (fun _ => ⟨⟨_, rfl, rfl⟩, h⟩) (fun s e hs u0 u2 n0 n48 => absurd q.2.2 (by omega))
  · refine y_sheet (d := d + 2) (fun q => absurd ⟨⟨by omega, by omega⟩, ⟨u0, u2⟩, n48⟩ q) (fun q => absurd q.2.2 (by omega)) (fun s2 e3 hs2 _ _ _ _ υ f2 e4 e5 ha2 ho => ⟨⟨_, rfl, rfl⟩, ?_⟩)
    obtain rfl : s2 = s := by omega
    have F : zfr [14 + 2 * s2, 15 + 2 * s2] [7 + s2, 15, 16, 17] σ υ := zfr_tr f f2 (by simp) (by simp)
    rw [f.2 15 (by simp; omega)] at e4
    rw [f.2 16 (by simp; omega)] at e5
    refine zInv_sh h F (fun n hn => ?_) (fun n hn => ?_) (zIh_mk (s0 := s2) hI (fun s hs3 hs4 => ⟨⟨?_, ?_⟩, ?_, ?_, ?_, fun k hk => ?_⟩) ⟨?_, ?_, ?_, ?_, fun k hk => ?_⟩)
    · simp at hn; omega
    · simp at hn; omega
    · exact F.1 _ (by simp; omega)
    · exact F.1 _ (by simp; omega)
    · exact F.2 _ (by simp; omega)
    · rw [e4, zup_n hs3]
    · rw [e5, zup_n hs3]
    · rw [ho _ (by omega), f.2 17 (by simp; omega)]
    · rw [f2.1 _ (by simp), e2]; omega
    · rw [f2.1 _ (by simp), e2, e4, zup_1]
    · rw [f2.1 _ (by simp), e1]; omega
    · rw [f2.1 _ (by simp), e1, e5, zup_1]
    · rw [ha2 k hk, f2.2 (7 + s2) (by simp; omega), ha k hk]
