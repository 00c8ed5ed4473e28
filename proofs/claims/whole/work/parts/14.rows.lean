/-! contracts of the rows: by wip/gen/spec1.py -/
theorem s_has {d : Nat} {σ : zM} {K : zM → Option zV → Prop}{r : Nat} (hr : r < 4) {i : Int} (q1 : 0 ≤ i → i < σ.1 r → K σ (some (vI 1))) (q2 : i < 0 ∨ σ.1 r ≤ i → K σ (some (vI 0))) : zC (d + 1) 0 [vR (zrw r), vI (i)] σ K := by
  refine zC_in rfl ?_
  show zG d 0 K 0 zfx (0, [vR (zrw r), vI (i)], [], σ)
  refine r_iload k_0_0 rfl ?_
  refine r_if_lt k_0_1 (fun h1 => ?_) (fun h1 => ?_)
  · skip
    refine r_const k_0_16 ?_
    refine r_zret k_0_17 (by omega) ?_
    first | exact q1 (by omega) (by omega) | exact q2 (by omega)
  · skip
    refine r_iload k_0_4 rfl ?_
    refine r_aload k_0_5 rfl ?_
    refine r_getS (v := σ.1 r) k_0_6 (zrw_1 hr) rfl ?_
    refine r_ic_ge k_0_9 (fun h9 => ?_) (fun h9 => ?_)
    · skip
      refine r_const k_0_16 ?_
      refine r_zret k_0_17 (by omega) ?_
      first | exact q1 (by omega) (by omega) | exact q2 (by omega)
    · skip
      refine r_const k_0_12 ?_
      refine r_goto k_0_13 ?_
      refine r_zret k_0_17 (by omega) ?_
      first | exact q1 (by omega) (by omega) | exact q2 (by omega)
theorem s_at {d : Nat} {σ : zM} {K : zM → Option zV → Prop}{r : Nat} (hr : r < 4) {i : Int} (q1 : 0 ≤ i → i < 72 → K σ (some (vI (σ.2 r i.toNat)))) (q2 : i < 0 ∨ 72 ≤ i → K σ (some (vI 0))) : zC (d + 1) 1 [vR (zrw r), vI (i)] σ K := by
  refine zC_in rfl ?_
  show zG d 1 K 0 zfx (0, [vR (zrw r), vI (i)], [], σ)
  refine r_iload k_1_0 rfl ?_
  refine r_if_lt k_1_1 (fun h1 => ?_) (fun h1 => ?_)
  · skip
    refine r_const k_1_22 ?_
    refine r_iret k_1_23 ?_
    first | exact q1 (by omega) (by omega) | exact q2 (by omega)
  · skip
    refine r_iload k_1_4 rfl ?_
    refine r_aload k_1_5 rfl ?_
    refine r_getR (q := zpl r) k_1_6 (zrw_0 hr) ?_
    refine r_alen (n := 72) (g := r) k_1_9 (zpl_a hr) ?_
    refine r_ic_ge k_1_10 (fun h10 => ?_) (fun h10 => ?_)
    · skip
      refine r_const k_1_22 ?_
      refine r_iret k_1_23 ?_
      first | exact q1 (by omega) (by omega) | exact q2 (by omega)
    · skip
      refine r_aload k_1_13 rfl ?_
      refine r_getR (q := zpl r) k_1_14 (zrw_0 hr) ?_
      refine r_iload k_1_17 rfl ?_
      refine r_iald (v := σ.2 r (i).toNat) k_1_18 (zpl_a hr) ⟨by omega, by omega⟩ rfl ?_
      refine r_goto k_1_19 ?_
      refine r_iret k_1_23 ?_
      first | exact q1 (by omega) (by omega) | exact q2 (by omega)
theorem s_put {d : Nat} {σ : zM} {K : zM → Option zV → Prop}{r : Nat} (hr : r < 4) {i c : Int} (q1 : 0 ≤ i → i < 72 → K (zsetA σ r (zup (σ.2 r) i.toNat c)) none) (q2 : i < 0 ∨ 72 ≤ i → K σ none) : zC (d + 1) 2 [vR (zrw r), vI (i), vI (c)] σ K := by
  refine zC_in rfl ?_
  show zG d 2 K 0 zfx (0, [vR (zrw r), vI (i), vI (c)], [], σ)
  refine r_iload k_2_0 rfl ?_
  refine r_if_lt k_2_1 (fun h1 => ?_) (fun h1 => ?_)
  · skip
    refine r_vret k_2_20 ?_
    first | exact q1 (by omega) (by omega) | exact q2 (by omega)
  · skip
    refine r_iload k_2_4 rfl ?_
    refine r_aload k_2_5 rfl ?_
    refine r_getR (q := zpl r) k_2_6 (zrw_0 hr) ?_
    refine r_alen (n := 72) (g := r) k_2_9 (zpl_a hr) ?_
    refine r_ic_ge k_2_10 (fun h10 => ?_) (fun h10 => ?_)
    · skip
      refine r_vret k_2_20 ?_
      first | exact q1 (by omega) (by omega) | exact q2 (by omega)
    · skip
      refine r_aload k_2_13 rfl ?_
      refine r_getR (q := zpl r) k_2_14 (zrw_0 hr) ?_
      refine r_iload k_2_17 rfl ?_
      refine r_iload k_2_18 rfl ?_
      refine r_iast k_2_19 (zpl_a hr) ⟨by omega, by omega⟩ ?_
      refine r_vret k_2_20 ?_
      first | exact q1 (by omega) (by omega) | exact q2 (by omega)
theorem s_add {d : Nat} {σ : zM} {K : zM → Option zV → Prop}{r : Nat} (hr : r < 4) {c : Int} (q1 : 0 ≤ σ.1 r → σ.1 r < 72 → K (zsetS (zsetA σ r (zup (σ.2 r) (σ.1 r).toNat c)) r (σ.1 r + 1)) none) (q2 : σ.1 r < 0 ∨ 72 ≤ σ.1 r → K σ none) : zC (d + 1) 3 [vR (zrw r), vI (c)] σ K := by
  refine zC_in rfl ?_
  show zG d 3 K 0 zfx (0, [vR (zrw r), vI (c)], [], σ)
  refine r_aload k_3_0 rfl ?_
  refine r_getS (v := σ.1 r) k_3_1 (zrw_1 hr) rfl ?_
  refine r_if_lt k_3_4 (fun h4 => ?_) (fun h4 => ?_)
  · skip
    refine r_vret k_3_39 ?_
    first | exact q1 (by omega) (by omega) | exact q2 (by omega)
  · skip
    refine r_aload k_3_7 rfl ?_
    refine r_getS (v := σ.1 r) k_3_8 (zrw_1 hr) rfl ?_
    refine r_aload k_3_11 rfl ?_
    refine r_getR (q := zpl r) k_3_12 (zrw_0 hr) ?_
    refine r_alen (n := 72) (g := r) k_3_15 (zpl_a hr) ?_
    refine r_ic_ge k_3_16 (fun h16 => ?_) (fun h16 => ?_)
    · skip
      refine r_vret k_3_39 ?_
      first | exact q1 (by omega) (by omega) | exact q2 (by omega)
    · skip
      refine r_aload k_3_19 rfl ?_
      refine r_getR (q := zpl r) k_3_20 (zrw_0 hr) ?_
      refine r_aload k_3_23 rfl ?_
      refine r_getS (v := σ.1 r) k_3_24 (zrw_1 hr) rfl ?_
      refine r_iload k_3_27 rfl ?_
      refine r_iast k_3_28 (zpl_a hr) ⟨by omega, by omega⟩ ?_
      refine r_aload k_3_29 rfl ?_
      refine r_dup k_3_30 ?_
      refine r_getS (v := σ.1 r) k_3_31 (zrw_1 hr) (by simp [zsetS, zsetA, zup, zupA, zcpy]) ?_
      refine r_const k_3_34 ?_
      refine r_bin (v := σ.1 r + 1) k_3_35 (zb_add ⟨by omega, by omega⟩) ?_
      refine r_putS k_3_36 (zrw_1 hr) ?_
      refine r_vret k_3_39 ?_
      first | exact q1 (by omega) (by omega) | exact q2 (by omega)
theorem s_cut {d : Nat} {σ : zM} {K : zM → Option zV → Prop}{r : Nat} (hr : r < 4) {n : Int} (hs : 0 ≤ n ∧ n ≤ 1000 ∧ -1000 ≤ σ.1 r ∧ σ.1 r ≤ 1000) (q1 : K (zsetS σ r (if 0 < σ.1 r - n then σ.1 r - n else 0)) none) : zC (d + 1) 4 [vR (zrw r), vI (n)] σ K := by
  refine zC_in rfl ?_
  show zG d 4 K 0 zfx (0, [vR (zrw r), vI (n)], [], σ)
  refine r_aload k_4_0 rfl ?_
  refine r_const k_4_1 ?_
  refine r_aload k_4_2 rfl ?_
  refine r_getS (v := σ.1 r) k_4_3 (zrw_1 hr) rfl ?_
  refine r_iload k_4_6 rfl ?_
  refine r_bin (v := σ.1 r - n) k_4_7 (zb_sub ⟨by omega, by omega⟩) ?_
  refine r_max (v := if 0 < σ.1 r - n then σ.1 r - n else 0) k_4_8 rfl rfl ?_
  refine r_putS k_4_11 (zrw_1 hr) ?_
  refine r_vret k_4_14 ?_
  first | exact q1
