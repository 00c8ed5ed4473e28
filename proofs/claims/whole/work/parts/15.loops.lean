/-! contracts with loops: rows -/
theorem s_atv {d : Nat} {σ : zM} {K : zM → Option zV → Prop} {r : Nat} {i v : Int} (hr : r < 4) (h1 : 0 ≤ i) (h2 : i < 72) (hv : σ.2 r i.toNat = v) (h : K σ (some (vI v))) : zC (d + 1) 1 [vR (zrw r), vI i] σ K :=
  s_at hr (fun _ _ => by rw [hv]; exact h) (fun q => by omega)
theorem s_rep2 {d : Nat} {σ : zM} {K : zM → Option zV → Prop} {r : Nat} (hr : r < 4) {s to : Nat} (hs : 1 ≤ s) (ht : 2 * s ≤ to) (hto : to ≤ 72) (q1 : K σ (some (vI (zb1 (zeqb (σ.2 r) to s))))) : zC (d + 1 + 1) 7 [vR (zrw r), vI (s), vI (2), vI (to)] σ K := by
  refine zC_in rfl ?_
  have lp : ∀ (n : Nat) (i : Int), (i + 1 - (to - 1 * s)).toNat = n → i < to → to - 1 * s - 1 ≤ i → (∀ k : Nat, i < k → k < to → σ.2 r k = σ.2 r (k - s)) → zG (d + 1) 7 K 0 zfx (14, [vR (zrw r), vI (s), vI (2), vI (to), vI (to - 1 * s), vI (i)], [], σ) := by
    intro n
    induction n using Nat.strongRecOn with
    | _ n ih =>
    intro i hn h1 h2 hi
    refine r_iload k_7_14 rfl ?_
    refine r_iload k_7_16 rfl ?_
    refine r_ic_lt k_7_18 (fun h18 => ?_) (fun h18 => ?_)
    · skip
      refine r_const k_7_46 ?_
      refine r_zret k_7_47 (by omega) ?_
      exact zKt q1 ((zeqb_t (by omega)).mpr fun k g1 g2 => hi k (by omega) g2)
    · skip
      refine r_aload k_7_21 rfl ?_
      refine r_iload k_7_22 rfl ?_
      refine r_call (as := [vR (zrw r), vI (i)]) (r := []) k_7_24 rfl (zrcv_o rfl (zrw_c hr)) rfl ?_
      refine s_atv (r := r) (v := σ.2 r (i).toNat) hr (by omega) (by omega) rfl ?_
      refine r_aload k_7_27 rfl ?_
      refine r_iload k_7_28 rfl ?_
      refine r_iload k_7_30 rfl ?_
      refine r_bin (v := i - s) k_7_31 (zb_sub ⟨by omega, by omega⟩) ?_
      refine r_call (as := [vR (zrw r), vI (i - s)]) (r := [vI (σ.2 r (i).toNat)]) k_7_32 rfl (zrcv_o rfl (zrw_c hr)) rfl ?_
      refine s_atv (r := r) (v := σ.2 r (i - s).toNat) hr (by omega) (by omega) rfl ?_
      refine r_ic_eq k_7_35 (fun h35 => ?_) (fun h35 => ?_)
      · skip
        refine r_iinc (v := i - 1) (L' := [vR (zrw r), vI (s), vI (2), vI (to), vI (to - 1 * s), vI (i - 1)]) k_7_40 rfl (by rw [zb_add ⟨by omega, by omega⟩]; omega) rfl ?_
        refine r_goto k_7_43 ?_
        exact ih _ (by omega) (i - 1) rfl (by omega) (by omega) (fun k g1 g2 => by
          by_cases hk : (k : Int) = i
          · have e1 : k = i.toNat := by omega
            have e2 : k - s = (i - s).toNat := by omega
            rw [e2, e1]; exact h35
          · exact hi k (by omega) g2)
      · skip
        refine r_const k_7_38 ?_
        refine r_zret k_7_39 (by omega) ?_
        obtain ⟨j, rfl⟩ : ∃ j : Nat, i = j := ⟨i.toNat, by omega⟩
        have hne : σ.2 r j ≠ σ.2 r (j - s) := by rw [← zN_sub (by omega)]; exact h35
        exact zKf q1 (zeqb_f (by omega) (k := j) (by omega) (by omega) hne)
  show zG (d + 1) 7 K 0 zfx (0, [vR (zrw r), vI (s), vI (2), vI (to), vU, vU], [], σ)
  refine r_iload k_7_0 rfl ?_
  refine r_iload k_7_1 rfl ?_
  refine r_const k_7_2 ?_
  refine r_bin (v := 1) k_7_3 (by decide +kernel) ?_
  refine r_iload k_7_4 rfl ?_
  refine r_bin (v := 1 * s) k_7_5 (zb_mul ⟨by omega, by omega⟩) ?_
  refine r_bin (v := to - (1 * s)) k_7_6 (zb_sub ⟨by omega, by omega⟩) ?_
  refine r_istore (L' := [vR (zrw r), vI (s), vI (2), vI (to), vI (to - (1 * s)), vU]) k_7_7 rfl ?_
  refine r_iload k_7_9 rfl ?_
  refine r_const k_7_10 ?_
  refine r_bin (v := to - 1) k_7_11 (zb_sub ⟨by omega, by omega⟩) ?_
  refine r_istore (L' := [vR (zrw r), vI (s), vI (2), vI (to), vI (to - (1 * s)), vI (to - 1)]) k_7_12 rfl ?_
  exact lp _ (to - 1) rfl (by omega) (by omega) (fun k g1 g2 => by omega)
theorem s_rep3 {d : Nat} {σ : zM} {K : zM → Option zV → Prop} {r : Nat} (hr : r < 4) {s to : Nat} (hs : 1 ≤ s) (ht : 3 * s ≤ to) (hto : to ≤ 72) (q1 : K σ (some (vI (zb1 ((zeqb (σ.2 r) to s && zeqb (σ.2 r) (to - s) s)))))) : zC (d + 1 + 1) 7 [vR (zrw r), vI (s), vI (3), vI (to)] σ K := by
  refine zC_in rfl ?_
  have lp : ∀ (n : Nat) (i : Int), (i + 1 - (to - 2 * s)).toNat = n → i < to → to - 2 * s - 1 ≤ i → (∀ k : Nat, i < k → k < to → σ.2 r k = σ.2 r (k - s)) → zG (d + 1) 7 K 0 zfx (14, [vR (zrw r), vI (s), vI (3), vI (to), vI (to - 2 * s), vI (i)], [], σ) := by
    intro n
    induction n using Nat.strongRecOn with
    | _ n ih =>
    intro i hn h1 h2 hi
    refine r_iload k_7_14 rfl ?_
    refine r_iload k_7_16 rfl ?_
    refine r_ic_lt k_7_18 (fun h18 => ?_) (fun h18 => ?_)
    · skip
      refine r_const k_7_46 ?_
      refine r_zret k_7_47 (by omega) ?_
      exact zKt q1 (by rw [Bool.and_eq_true]; exact ⟨(zeqb_t (by omega)).mpr fun k g1 g2 => hi k (by omega) g2, (zeqb_t (by omega)).mpr fun k g1 g2 => hi k (by omega) (by omega)⟩)
    · skip
      refine r_aload k_7_21 rfl ?_
      refine r_iload k_7_22 rfl ?_
      refine r_call (as := [vR (zrw r), vI (i)]) (r := []) k_7_24 rfl (zrcv_o rfl (zrw_c hr)) rfl ?_
      refine s_atv (r := r) (v := σ.2 r (i).toNat) hr (by omega) (by omega) rfl ?_
      refine r_aload k_7_27 rfl ?_
      refine r_iload k_7_28 rfl ?_
      refine r_iload k_7_30 rfl ?_
      refine r_bin (v := i - s) k_7_31 (zb_sub ⟨by omega, by omega⟩) ?_
      refine r_call (as := [vR (zrw r), vI (i - s)]) (r := [vI (σ.2 r (i).toNat)]) k_7_32 rfl (zrcv_o rfl (zrw_c hr)) rfl ?_
      refine s_atv (r := r) (v := σ.2 r (i - s).toNat) hr (by omega) (by omega) rfl ?_
      refine r_ic_eq k_7_35 (fun h35 => ?_) (fun h35 => ?_)
      · skip
        refine r_iinc (v := i - 1) (L' := [vR (zrw r), vI (s), vI (3), vI (to), vI (to - 2 * s), vI (i - 1)]) k_7_40 rfl (by rw [zb_add ⟨by omega, by omega⟩]; omega) rfl ?_
        refine r_goto k_7_43 ?_
        exact ih _ (by omega) (i - 1) rfl (by omega) (by omega) (fun k g1 g2 => by
          by_cases hk : (k : Int) = i
          · have e1 : k = i.toNat := by omega
            have e2 : k - s = (i - s).toNat := by omega
            rw [e2, e1]; exact h35
          · exact hi k (by omega) g2)
      · skip
        refine r_const k_7_38 ?_
        refine r_zret k_7_39 (by omega) ?_
        obtain ⟨j, rfl⟩ : ∃ j : Nat, i = j := ⟨i.toNat, by omega⟩
        have hne : σ.2 r j ≠ σ.2 r (j - s) := by rw [← zN_sub (by omega)]; exact h35
        refine zKf q1 ?_
        rw [Bool.and_eq_false_iff]
        by_cases hj : to - s ≤ j
        · exact Or.inl (zeqb_f (by omega) (k := j) (by omega) (by omega) hne)
        · exact Or.inr (zeqb_f (by omega) (k := j) (by omega) (by omega) hne)
  show zG (d + 1) 7 K 0 zfx (0, [vR (zrw r), vI (s), vI (3), vI (to), vU, vU], [], σ)
  refine r_iload k_7_0 rfl ?_
  refine r_iload k_7_1 rfl ?_
  refine r_const k_7_2 ?_
  refine r_bin (v := 2) k_7_3 (by decide +kernel) ?_
  refine r_iload k_7_4 rfl ?_
  refine r_bin (v := 2 * s) k_7_5 (zb_mul ⟨by omega, by omega⟩) ?_
  refine r_bin (v := to - (2 * s)) k_7_6 (zb_sub ⟨by omega, by omega⟩) ?_
  refine r_istore (L' := [vR (zrw r), vI (s), vI (3), vI (to), vI (to - (2 * s)), vU]) k_7_7 rfl ?_
  refine r_iload k_7_9 rfl ?_
  refine r_const k_7_10 ?_
  refine r_bin (v := to - 1) k_7_11 (zb_sub ⟨by omega, by omega⟩) ?_
  refine r_istore (L' := [vR (zrw r), vI (s), vI (3), vI (to), vI (to - (2 * s)), vI (to - 1)]) k_7_12 rfl ?_
  exact lp _ (to - 1) rfl (by omega) (by omega) (fun k g1 g2 => by omega)
