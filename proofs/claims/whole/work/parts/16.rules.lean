/-! contracts: the rest of the rows, the rules, the tape, the sheets -/
theorem s_take {d : Nat} {σ : zM} {K : zM → Option zV → Prop} {r : Nat} (hr : r < 4) {t : Nat} (ht : t < 4) {n m : Int} (hm : (if σ.1 t < n then σ.1 t else n) = m) (h0 : 0 ≤ m) (h1 : m ≤ 72) (q1 : ∀ τ, zfr [r] [r] σ τ → τ.1 r = m → (∀ k : Nat, (k : Int) < m → τ.2 r k = σ.2 t k) → K τ none) : zC (d + 1) 6 [vR (zrw r), vR (zrw t), vI (n)] σ K := by
  refine zC_in rfl ?_
  show zG (d) 6 K 0 zfx (0, [vR (zrw r), vR (zrw t), vI (n)], [], σ)
  refine r_aload k_6_0 rfl ?_
  refine r_const k_6_1 ?_
  refine r_iload k_6_2 rfl ?_
  refine r_aload k_6_3 rfl ?_
  refine r_getS (v := σ.1 t) k_6_4 (zrw_1 ht) rfl ?_
  refine r_min (v := m) k_6_7 rfl hm ?_
  refine r_max (v := m) k_6_10 rfl (by split <;> omega) ?_
  refine r_putS k_6_13 (zrw_1 hr) ?_
  refine r_aload k_6_16 rfl ?_
  refine r_getR (q := zpl t) k_6_17 (zrw_0 ht) ?_
  refine r_const k_6_20 ?_
  refine r_aload k_6_21 rfl ?_
  refine r_getR (q := zpl r) k_6_22 (zrw_0 hr) ?_
  refine r_const k_6_25 ?_
  refine r_aload k_6_26 rfl ?_
  refine r_getS (v := m) k_6_27 (zrw_1 hr) (by simp [zsetS, zsetA, zup, zupA, zcpy]) ?_
  refine r_acopy k_6_30 (zpl_a hr) (zpl_a ht) ⟨by omega, by omega, by omega⟩ ⟨by omega, by omega⟩ ?_
  refine r_vret k_6_33 ?_
  refine q1 _ (zfr_A (zfr_S zfr_rf (by simp)) (by simp)) (by simp [zsetS, zsetA, zup]) (fun k hk => ?_)
  have hk2 : k < m.toNat := by omega
  simp [zsetS, zsetA, zup, zupA, zcpy, hk2]
theorem s_tout {d : Nat} {σ : zM} {K : zM → Option zV → Prop} {r : Nat} (hr : r < 4) {i : Int} (hi : 0 ≤ i) (hi2 : i < σ.1 r) (hs : σ.1 r ≤ 72) (q1 : ∀ τ, zfr [r] [r] σ τ → τ.1 r = σ.1 r - 1 → (∀ k : Nat, (k : Int) < i → τ.2 r k = σ.2 r k) → (∀ k : Nat, i ≤ k → (k : Int) + 1 < σ.1 r → τ.2 r k = σ.2 r (k + 1)) → K τ none) : zC (d + 1 + 1) 5 [vR (zrw r), vI (i)] σ K := by
  refine zC_in rfl ?_
  have lp : ∀ (n : Nat) (k : Int) (τ : zM), (σ.1 r - k).toNat = n → i ≤ k → k + 1 ≤ σ.1 r → zfr [] [r] σ τ → (∀ j : Nat, (j : Int) < k → i ≤ j → τ.2 r j = σ.2 r (j + 1)) → (∀ j : Nat, (j : Int) < i ∨ k ≤ j → τ.2 r j = σ.2 r j) → zG (d + 1) 5 K 0 zfx (11, [vR (zrw r), vI (i), vI (k)], [], τ) := by
    intro n
    induction n using Nat.strongRecOn with
    | _ n ih =>
    intro k τ hn h1 h2 hf ha hb
    have hz : τ.1 r = σ.1 r := hf.1 r (by simp)
    refine r_iload k_5_11 rfl ?_
    refine r_const k_5_12 ?_
    refine r_bin (v := k + 1) k_5_13 (zb_add ⟨by omega, by omega⟩) ?_
    refine r_aload k_5_14 rfl ?_
    refine r_getS (v := τ.1 r) k_5_15 (zrw_1 hr) rfl ?_
    refine r_ic_ge k_5_18 (fun h18 => ?_) (fun h18 => ?_)
    · skip
      refine r_aload k_5_39 rfl ?_
      refine r_dup k_5_40 ?_
      refine r_getS (v := τ.1 r) k_5_41 (zrw_1 hr) rfl ?_
      refine r_const k_5_44 ?_
      refine r_bin (v := τ.1 r - 1) k_5_45 (zb_sub ⟨by omega, by omega⟩) ?_
      refine r_putS k_5_46 (zrw_1 hr) ?_
      refine r_vret k_5_49 ?_
      refine q1 _ (zfr_S (zfr_w hf (by simp) (by simp)) (by simp)) (by rw [zS_1, hz]) (fun k hk => ?_) (fun k g1 g2 => ?_)
      · rw [zS_2]; exact hb k (Or.inl (by omega))
      · rw [zS_2]; exact ha k (by omega) (by omega)
    · skip
      refine r_aload k_5_21 rfl ?_
      refine r_iload k_5_22 rfl ?_
      refine r_aload k_5_23 rfl ?_
      refine r_iload k_5_24 rfl ?_
      refine r_const k_5_25 ?_
      refine r_bin (v := k + 1) k_5_26 (zb_add ⟨by omega, by omega⟩) ?_
      refine r_call (as := [vR (zrw r), vI (k + 1)]) (r := [vI (k), vR (zrw r)]) k_5_27 rfl (zrcv_o rfl (zrw_c hr)) rfl ?_
      refine s_atv (r := r) (v := τ.2 r (k + 1).toNat) hr (by omega) (by omega) rfl ?_
      refine r_call (as := [vR (zrw r), vI (k), vI (τ.2 r (k + 1).toNat)]) (r := []) k_5_30 rfl (zrcv_o rfl (zrw_c hr)) rfl ?_
      refine s_put (r := r) hr (fun _ _ => ?_) (fun q => by omega)
      refine r_iinc (v := k + 1) (L' := [vR (zrw r), vI (i), vI (k + 1)]) k_5_33 rfl (zb_add ⟨by omega, by omega⟩) rfl ?_
      refine r_goto k_5_36 ?_
      refine ih _ (by omega) (k + 1) _ rfl (by omega) (by omega) (zfr_A hf (by simp)) (fun j g1 g2 => ?_) (fun j g1 => ?_)
      · rw [zA_2]
        by_cases hj : (j : Int) = k
        · rw [show k.toNat = j by omega, zup_1, hb _ (Or.inr (by omega)), show (k + 1).toNat = j + 1 by omega]
        · rw [zup_n (by omega)]; exact ha j (by omega) g2
      · rw [zA_2, zup_n (by omega)]; exact hb j (by omega)
  show zG (d + 1) 5 K 0 zfx (0, [vR (zrw r), vI (i), vU], [], σ)
  refine r_aload k_5_0 rfl ?_
  refine r_iload k_5_1 rfl ?_
  refine r_call (as := [vR (zrw r), vI (i)]) (r := []) k_5_2 rfl (zrcv_o rfl (zrw_c hr)) rfl ?_
  refine s_has (r := r) hr (fun g2 e2 => ?_) (fun g2 => ?_)
  · skip
    refine r_if_ne k_5_5 (fun _ => ?_) (fun hz => absurd hz (by decide))
    refine r_iload k_5_9 rfl ?_
    refine r_istore (L' := [vR (zrw r), vI (i), vI (i)]) k_5_10 rfl ?_
    exact lp _ i σ rfl (by omega) (by omega) zfr_rf (fun j g1 g2 => by omega) (fun j _ => rfl)
  · skip
    refine r_if_ne k_5_5 (fun hz => absurd hz (by decide)) (fun _ => ?_)
    refine r_vret k_5_8 ?_
    omega
theorem s_hasCol {d : Nat} {σ : zM} {K : zM → Option zV → Prop} {c : Int} (q1 : 0 ≤ c → c < σ.1 4 → K σ (some (vI 1))) (q2 : c < 0 ∨ σ.1 4 ≤ c → K σ (some (vI 0))) : zC (d + 1) 8 [vR (4), vI (c)] σ K := by
  refine zC_in rfl ?_
  show zG d 8 K 0 zfx (0, [vR (4), vI (c)], [], σ)
  refine r_iload k_8_0 rfl ?_
  refine r_if_lt k_8_1 (fun h1 => ?_) (fun h1 => ?_)
  · skip
    refine r_const k_8_16 ?_
    refine r_zret k_8_17 (by omega) ?_
    first | exact q1 (by omega) (by omega) | exact q2 (by omega)
  · skip
    refine r_iload k_8_4 rfl ?_
    refine r_aload k_8_5 rfl ?_
    refine r_getS (v := σ.1 4) k_8_6 ⟨rfl, rfl⟩ rfl ?_
    refine r_ic_ge k_8_9 (fun h9 => ?_) (fun h9 => ?_)
    · skip
      refine r_const k_8_16 ?_
      refine r_zret k_8_17 (by omega) ?_
      first | exact q1 (by omega) (by omega) | exact q2 (by omega)
    · skip
      refine r_const k_8_12 ?_
      refine r_goto k_8_13 ?_
      refine r_zret k_8_17 (by omega) ?_
      first | exact q1 (by omega) (by omega) | exact q2 (by omega)
theorem s_priceOf {d : Nat} {σ : zM} {K : zM → Option zV → Prop} {c : Int} (q1 : 0 ≤ c → c < 4 → K σ (some (vI (σ.2 4 c.toNat)))) (q2 : c < 0 ∨ 4 ≤ c → K σ (some (vI 0))) : zC (d + 1) 9 [vR (4), vI (c)] σ K := by
  refine zC_in rfl ?_
  show zG d 9 K 0 zfx (0, [vR (4), vI (c)], [], σ)
  refine r_iload k_9_0 rfl ?_
  refine r_if_lt k_9_1 (fun h1 => ?_) (fun h1 => ?_)
  · skip
    refine r_const k_9_22 ?_
    refine r_iret k_9_23 ?_
    first | exact q1 (by omega) (by omega) | exact q2 (by omega)
  · skip
    refine r_iload k_9_4 rfl ?_
    refine r_aload k_9_5 rfl ?_
    refine r_getR (q := 5) k_9_6 ⟨rfl, rfl⟩ ?_
    refine r_alen (n := 4) (g := 4) k_9_9 ⟨rfl, rfl⟩ ?_
    refine r_ic_ge k_9_10 (fun h10 => ?_) (fun h10 => ?_)
    · skip
      refine r_const k_9_22 ?_
      refine r_iret k_9_23 ?_
      first | exact q1 (by omega) (by omega) | exact q2 (by omega)
    · skip
      refine r_aload k_9_13 rfl ?_
      refine r_getR (q := 5) k_9_14 ⟨rfl, rfl⟩ ?_
      refine r_iload k_9_17 rfl ?_
      refine r_iald (v := σ.2 4 (c).toNat) k_9_18 ⟨rfl, rfl⟩ ⟨by omega, by omega⟩ rfl ?_
      refine r_goto k_9_19 ?_
      refine r_iret k_9_23 ?_
      first | exact q1 (by omega) (by omega) | exact q2 (by omega)
theorem s_setPrice {d : Nat} {σ : zM} {K : zM → Option zV → Prop} {c v : Int} (q1 : 0 ≤ c → c < 4 → K (zsetA σ 4 (zup (σ.2 4) c.toNat v)) none) (q2 : c < 0 ∨ 4 ≤ c → K σ none) : zC (d + 1) 10 [vR (4), vI (c), vI (v)] σ K := by
  refine zC_in rfl ?_
  show zG d 10 K 0 zfx (0, [vR (4), vI (c), vI (v)], [], σ)
  refine r_iload k_10_0 rfl ?_
  refine r_if_lt k_10_1 (fun h1 => ?_) (fun h1 => ?_)
  · skip
    refine r_vret k_10_20 ?_
    first | exact q1 (by omega) (by omega) | exact q2 (by omega)
  · skip
    refine r_iload k_10_4 rfl ?_
    refine r_aload k_10_5 rfl ?_
    refine r_getR (q := 5) k_10_6 ⟨rfl, rfl⟩ ?_
    refine r_alen (n := 4) (g := 4) k_10_9 ⟨rfl, rfl⟩ ?_
    refine r_ic_ge k_10_10 (fun h10 => ?_) (fun h10 => ?_)
    · skip
      refine r_vret k_10_20 ?_
      first | exact q1 (by omega) (by omega) | exact q2 (by omega)
    · skip
      refine r_aload k_10_13 rfl ?_
      refine r_getR (q := 5) k_10_14 ⟨rfl, rfl⟩ ?_
      refine r_iload k_10_17 rfl ?_
      refine r_iload k_10_18 rfl ?_
      refine r_iast k_10_19 ⟨rfl, rfl⟩ ⟨by omega, by omega⟩ ?_
      refine r_vret k_10_20 ?_
      first | exact q1 (by omega) (by omega) | exact q2 (by omega)
theorem s_rtake_now {d : Nat} {σ : zM} {K : zM → Option zV → Prop} (q1 : ∀ τ, zfr [4, 5, 6] [4] σ τ → τ.1 4 = σ.1 7 → τ.1 5 = σ.1 8 → τ.1 6 = σ.1 9 → (∀ k : Nat, k < 4 → τ.2 4 k = σ.2 5 k) → K τ none) : zC (d + 1) 12 [vR (4), vR (9)] σ K := by
  refine zC_in rfl ?_
  show zG d 12 K 0 zfx (0, [vR (4), vR (9)], [], σ)
  refine r_aload k_12_0 rfl ?_
  refine r_aload k_12_1 rfl ?_
  refine r_getS (v := σ.1 7) k_12_2 ⟨rfl, rfl⟩ rfl ?_
  refine r_putS k_12_5 ⟨rfl, rfl⟩ ?_
  refine r_aload k_12_8 rfl ?_
  refine r_aload k_12_9 rfl ?_
  refine r_getS (v := σ.1 8) k_12_10 ⟨rfl, rfl⟩ (by simp [zsetS, zsetA, zup, zupA, zcpy]) ?_
  refine r_putS k_12_13 ⟨rfl, rfl⟩ ?_
  refine r_aload k_12_16 rfl ?_
  refine r_aload k_12_17 rfl ?_
  refine r_getS (v := σ.1 9) k_12_18 ⟨rfl, rfl⟩ (by simp [zsetS, zsetA, zup, zupA, zcpy]) ?_
  refine r_putS k_12_21 ⟨rfl, rfl⟩ ?_
  refine r_aload k_12_24 rfl ?_
  refine r_getR (q := 10) k_12_25 ⟨rfl, rfl⟩ ?_
  refine r_const k_12_28 ?_
  refine r_aload k_12_29 rfl ?_
  refine r_getR (q := 5) k_12_30 ⟨rfl, rfl⟩ ?_
  refine r_const k_12_33 ?_
  refine r_const k_12_34 ?_
  refine r_acopy k_12_35 ⟨rfl, rfl⟩ ⟨rfl, rfl⟩ ⟨by omega, by omega, by omega⟩ ⟨by omega, by omega⟩ ?_
  refine r_vret k_12_38 ?_
  refine q1 _ (zfr_A (zfr_S (zfr_S (zfr_S zfr_rf (by simp)) (by simp)) (by simp)) (by simp)) (by simp [zsetS, zsetA, zup]) (by simp [zsetS, zsetA, zup]) (by simp [zsetS, zsetA, zup]) (fun k hk => ?_)
  simp [zsetS, zsetA, zup, zupA, zcpy, hk]
theorem s_rtake_kept {d : Nat} {σ : zM} {K : zM → Option zV → Prop} (q1 : ∀ τ, zfr [7, 8, 9] [5] σ τ → τ.1 7 = σ.1 4 → τ.1 8 = σ.1 5 → τ.1 9 = σ.1 6 → (∀ k : Nat, k < 4 → τ.2 5 k = σ.2 4 k) → K τ none) : zC (d + 1) 12 [vR (9), vR (4)] σ K := by
  refine zC_in rfl ?_
  show zG d 12 K 0 zfx (0, [vR (9), vR (4)], [], σ)
  refine r_aload k_12_0 rfl ?_
  refine r_aload k_12_1 rfl ?_
  refine r_getS (v := σ.1 4) k_12_2 ⟨rfl, rfl⟩ rfl ?_
  refine r_putS k_12_5 ⟨rfl, rfl⟩ ?_
  refine r_aload k_12_8 rfl ?_
  refine r_aload k_12_9 rfl ?_
  refine r_getS (v := σ.1 5) k_12_10 ⟨rfl, rfl⟩ (by simp [zsetS, zsetA, zup, zupA, zcpy]) ?_
  refine r_putS k_12_13 ⟨rfl, rfl⟩ ?_
  refine r_aload k_12_16 rfl ?_
  refine r_aload k_12_17 rfl ?_
  refine r_getS (v := σ.1 6) k_12_18 ⟨rfl, rfl⟩ (by simp [zsetS, zsetA, zup, zupA, zcpy]) ?_
  refine r_putS k_12_21 ⟨rfl, rfl⟩ ?_
  refine r_aload k_12_24 rfl ?_
  refine r_getR (q := 5) k_12_25 ⟨rfl, rfl⟩ ?_
  refine r_const k_12_28 ?_
  refine r_aload k_12_29 rfl ?_
  refine r_getR (q := 10) k_12_30 ⟨rfl, rfl⟩ ?_
  refine r_const k_12_33 ?_
  refine r_const k_12_34 ?_
  refine r_acopy k_12_35 ⟨rfl, rfl⟩ ⟨rfl, rfl⟩ ⟨by omega, by omega, by omega⟩ ⟨by omega, by omega⟩ ?_
  refine r_vret k_12_38 ?_
  refine q1 _ (zfr_A (zfr_S (zfr_S (zfr_S zfr_rf (by simp)) (by simp)) (by simp)) (by simp)) (by simp [zsetS, zsetA, zup]) (by simp [zsetS, zsetA, zup]) (by simp [zsetS, zsetA, zup]) (fun k hk => ?_)
  simp [zsetS, zsetA, zup, zupA, zcpy, hk]
theorem s_tat {d : Nat} {σ : zM} {K : zM → Option zV → Prop} {i : Int} (q1 : 0 ≤ i → i < 100 → K σ (some (vI (σ.2 6 i.toNat)))) (q2 : i < 0 ∨ 100 ≤ i → K σ (some (vI 32))) : zC (d + 1) 25 [vR (11), vI (i)] σ K := by
  refine zC_in rfl ?_
  show zG d 25 K 0 zfx (0, [vR (11), vI (i)], [], σ)
  refine r_iload k_25_0 rfl ?_
  refine r_if_lt k_25_1 (fun h1 => ?_) (fun h1 => ?_)
  · skip
    refine r_const k_25_22 ?_
    refine r_iret k_25_24 ?_
    first | exact q1 (by omega) (by omega) | exact q2 (by omega)
  · skip
    refine r_iload k_25_4 rfl ?_
    refine r_aload k_25_5 rfl ?_
    refine r_getR (q := 12) k_25_6 ⟨rfl, rfl⟩ ?_
    refine r_alen (n := 100) (g := 6) k_25_9 ⟨rfl, rfl⟩ ?_
    refine r_ic_ge k_25_10 (fun h10 => ?_) (fun h10 => ?_)
    · skip
      refine r_const k_25_22 ?_
      refine r_iret k_25_24 ?_
      first | exact q1 (by omega) (by omega) | exact q2 (by omega)
    · skip
      refine r_aload k_25_13 rfl ?_
      refine r_getR (q := 12) k_25_14 ⟨rfl, rfl⟩ ?_
      refine r_iload k_25_17 rfl ?_
      refine r_iald (v := σ.2 6 (i).toNat) k_25_18 ⟨rfl, rfl⟩ ⟨by omega, by omega⟩ rfl ?_
      refine r_goto k_25_19 ?_
      refine r_iret k_25_24 ?_
      first | exact q1 (by omega) (by omega) | exact q2 (by omega)
theorem s_tadd {d : Nat} {σ : zM} {K : zM → Option zV → Prop} {c : Int} (q1 : 0 ≤ σ.1 13 → σ.1 13 < 100 → K (zsetS (zsetA σ 6 (zup (σ.2 6) (σ.1 13).toNat c)) 13 (σ.1 13 + 1)) none) (q2 : σ.1 13 < 0 ∨ 100 ≤ σ.1 13 → K σ none) : zC (d + 1) 26 [vR (11), vI (c)] σ K := by
  refine zC_in rfl ?_
  show zG d 26 K 0 zfx (0, [vR (11), vI (c)], [], σ)
  refine r_aload k_26_0 rfl ?_
  refine r_getS (v := σ.1 13) k_26_1 ⟨rfl, rfl⟩ rfl ?_
  refine r_if_lt k_26_4 (fun h4 => ?_) (fun h4 => ?_)
  · skip
    refine r_vret k_26_39 ?_
    first | exact q1 (by omega) (by omega) | exact q2 (by omega)
  · skip
    refine r_aload k_26_7 rfl ?_
    refine r_getS (v := σ.1 13) k_26_8 ⟨rfl, rfl⟩ rfl ?_
    refine r_aload k_26_11 rfl ?_
    refine r_getR (q := 12) k_26_12 ⟨rfl, rfl⟩ ?_
    refine r_alen (n := 100) (g := 6) k_26_15 ⟨rfl, rfl⟩ ?_
    refine r_ic_ge k_26_16 (fun h16 => ?_) (fun h16 => ?_)
    · skip
      refine r_vret k_26_39 ?_
      first | exact q1 (by omega) (by omega) | exact q2 (by omega)
    · skip
      refine r_aload k_26_19 rfl ?_
      refine r_getR (q := 12) k_26_20 ⟨rfl, rfl⟩ ?_
      refine r_aload k_26_23 rfl ?_
      refine r_getS (v := σ.1 13) k_26_24 ⟨rfl, rfl⟩ rfl ?_
      refine r_iload k_26_27 rfl ?_
      refine r_iast k_26_28 ⟨rfl, rfl⟩ ⟨by omega, by omega⟩ ?_
      refine r_aload k_26_29 rfl ?_
      refine r_dup k_26_30 ?_
      refine r_getS (v := σ.1 13) k_26_31 ⟨rfl, rfl⟩ (by simp [zsetS, zsetA, zup, zupA, zcpy]) ?_
      refine r_const k_26_34 ?_
      refine r_bin (v := σ.1 13 + 1) k_26_35 (zb_add ⟨by omega, by omega⟩) ?_
      refine r_putS k_26_36 ⟨rfl, rfl⟩ ?_
      refine r_vret k_26_39 ?_
      first | exact q1 (by omega) (by omega) | exact q2 (by omega)
theorem s_sat {d : Nat} {σ : zM} {K : zM → Option zV → Prop} {s : Nat} (hs : s < 4) {i : Int} (q1 : 0 ≤ i → i < 48 → K σ (some (vI (σ.2 (7 + s) i.toNat)))) (q2 : i < 0 ∨ 48 ≤ i → K σ (some (vI 0))) : zC (d + 1) 21 [vR (zshp s), vI (i)] σ K := by
  refine zC_in rfl ?_
  show zG d 21 K 0 zfx (0, [vR (zshp s), vI (i)], [], σ)
  refine r_iload k_21_0 rfl ?_
  refine r_if_lt k_21_1 (fun h1 => ?_) (fun h1 => ?_)
  · skip
    refine r_const k_21_22 ?_
    refine r_iret k_21_23 ?_
    first | exact q1 (by omega) (by omega) | exact q2 (by omega)
  · skip
    refine r_iload k_21_4 rfl ?_
    refine r_aload k_21_5 rfl ?_
    refine r_getR (q := zit s) k_21_6 (zsh_0 hs) ?_
    refine r_alen (n := 48) (g := (7 + s)) k_21_9 (zit_a hs) ?_
    refine r_ic_ge k_21_10 (fun h10 => ?_) (fun h10 => ?_)
    · skip
      refine r_const k_21_22 ?_
      refine r_iret k_21_23 ?_
      first | exact q1 (by omega) (by omega) | exact q2 (by omega)
    · skip
      refine r_aload k_21_13 rfl ?_
      refine r_getR (q := zit s) k_21_14 (zsh_0 hs) ?_
      refine r_iload k_21_17 rfl ?_
      refine r_iald (v := σ.2 ((7 + s)) (i).toNat) k_21_18 (zit_a hs) ⟨by omega, by omega⟩ rfl ?_
      refine r_goto k_21_19 ?_
      refine r_iret k_21_23 ?_
      first | exact q1 (by omega) (by omega) | exact q2 (by omega)
theorem s_reach {d : Nat} {σ : zM} {K : zM → Option zV → Prop} {s : Nat} (hs : s < 4) {f n : Int} (hl : -1 ≤ σ.1 (15 + 2 * s) ∧ σ.1 (15 + 2 * s) ≤ 48) (q1 : 0 ≤ f ∧ 0 ≤ n ∧ f + n ≤ σ.1 (15 + 2 * s) → K σ (some (vI 1))) (q2 : ¬ (0 ≤ f ∧ 0 ≤ n ∧ f + n ≤ σ.1 (15 + 2 * s)) → K σ (some (vI 0))) : zC (d + 1) 20 [vR (zshp s), vI (f), vI (n)] σ K := by
  refine zC_in rfl ?_
  show zG d 20 K 0 zfx (0, [vR (zshp s), vI (f), vI (n)], [], σ)
  refine r_iload k_20_0 rfl ?_
  refine r_if_lt k_20_1 (fun h1 => ?_) (fun h1 => ?_)
  · skip
    refine r_const k_20_30 ?_
    refine r_zret k_20_31 (by omega) ?_
    first | exact q1 (by omega) | exact q2 (by omega)
  · skip
    refine r_iload k_20_4 rfl ?_
    refine r_if_lt k_20_5 (fun h5 => ?_) (fun h5 => ?_)
    · skip
      refine r_const k_20_30 ?_
      refine r_zret k_20_31 (by omega) ?_
      first | exact q1 (by omega) | exact q2 (by omega)
    · skip
      refine r_iload k_20_8 rfl ?_
      refine r_aload k_20_9 rfl ?_
      refine r_getS (v := σ.1 ((15 + 2 * s))) k_20_10 (zsh_2 hs) rfl ?_
      refine r_ic_gt k_20_13 (fun h13 => ?_) (fun h13 => ?_)
      · skip
        refine r_const k_20_30 ?_
        refine r_zret k_20_31 (by omega) ?_
        first | exact q1 (by omega) | exact q2 (by omega)
      · skip
        refine r_iload k_20_16 rfl ?_
        refine r_aload k_20_17 rfl ?_
        refine r_getS (v := σ.1 ((15 + 2 * s))) k_20_18 (zsh_2 hs) rfl ?_
        refine r_iload k_20_21 rfl ?_
        refine r_bin (v := σ.1 ((15 + 2 * s)) - n) k_20_22 (zb_sub ⟨by omega, by omega⟩) ?_
        refine r_ic_gt k_20_23 (fun h23 => ?_) (fun h23 => ?_)
        · skip
          refine r_const k_20_30 ?_
          refine r_zret k_20_31 (by omega) ?_
          first | exact q1 (by omega) | exact q2 (by omega)
        · skip
          refine r_const k_20_26 ?_
          refine r_goto k_20_27 ?_
          refine r_zret k_20_31 (by omega) ?_
          first | exact q1 (by omega) | exact q2 (by omega)
