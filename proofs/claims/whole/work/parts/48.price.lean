/-! price: the two alike -/
theorem x_price {d : Nat} {σ : zM} {K : zM → Option zV → Prop} {C : Nat} {law least draw : Int} {l : List Int} {p : Nat → Int} (hg : zgd C law least draw l p) (hx : zXn σ C law least draw l p) {c v : Int} (q1 : ¬ ((0 ≤ c ∧ c < 4) ∧ 0 ≤ v ∧ v ≤ 99) → K σ (some (vI (-1)))) (q2 : ∀ k : Nat, c = k → k < 4 → 0 ≤ v → v ≤ 99 → K (zsetA σ 4 (zup (σ.2 4) k v)) (some (vI (p k)))) : zC (d + 1 + 1) 28 [vR (0), vI (c), vI (v)] σ K := by
  refine zC_in rfl ?_
  show zG (d + 1) 28 K 0 zfx (0, [vR (0), vI (c), vI (v), vU], [], σ)
  refine r_iload k_28_0 rfl ?_
  refine r_if_lt k_28_1 (fun h1 => ?_) (fun h1 => ?_)
  · skip
    refine r_const k_28_19 ?_
    refine r_iret k_28_20 ?_
    exact q1 (by omega)
  · skip
    refine r_iload k_28_4 rfl ?_
    refine r_const k_28_5 ?_
    refine r_ic_ge k_28_6 (fun h6 => ?_) (fun h6 => ?_)
    · skip
      refine r_const k_28_19 ?_
      refine r_iret k_28_20 ?_
      exact q1 (by omega)
    · skip
      refine r_iload k_28_9 rfl ?_
      refine r_if_lt k_28_10 (fun h10 => ?_) (fun h10 => ?_)
      · skip
        refine r_const k_28_19 ?_
        refine r_iret k_28_20 ?_
        exact q1 (by omega)
      · skip
        refine r_iload k_28_13 rfl ?_
        refine r_const k_28_14 ?_
        refine r_ic_le k_28_16 (fun h16 => ?_) (fun h16 => ?_)
        · skip
          refine r_aload k_28_21 rfl ?_
          refine r_getR (q := 1) k_28_22 ⟨rfl, rfl⟩ ?_
          refine r_getR (q := 4) k_28_25 ⟨rfl, rfl⟩ ?_
          refine r_iload k_28_28 rfl ?_
          refine r_call (as := [vR (4), vI (c)]) (r := []) k_28_29 rfl rfl rfl ?_
          refine s_priceOf (fun _ _ => ?_) (fun q => by omega)
          rw [hx.2.2.1 c.toNat (by omega)]
          refine r_istore (L' := [vR (0), vI (c), vI (v), vI ((p c.toNat))]) k_28_32 rfl ?_
          refine r_aload k_28_33 rfl ?_
          refine r_getR (q := 1) k_28_34 ⟨rfl, rfl⟩ ?_
          refine r_getR (q := 4) k_28_37 ⟨rfl, rfl⟩ ?_
          refine r_iload k_28_40 rfl ?_
          refine r_iload k_28_41 rfl ?_
          refine r_call (as := [vR (4), vI (c), vI (v)]) (r := []) k_28_42 rfl rfl rfl ?_
          refine s_setPrice (fun _ _ => ?_) (fun q => by omega)
          refine r_iload k_28_45 rfl ?_
          refine r_iret k_28_46 ?_
          exact q2 c.toNat (by omega) (by omega) (by omega) (by omega)
        · skip
          refine r_const k_28_19 ?_
          refine r_iret k_28_20 ?_
          exact q1 (by omega)
theorem y_price {d : Nat} {σ : zM} {K : zM → Option zV → Prop} {C : Nat} {law least draw : Int} {l : List Int} {p : Nat → Int} (hg : zgd C law least draw l p) (hy : zYn (σ.2 12) C law least draw l p) {c v : Int} (q1 : ¬ ((0 ≤ c ∧ c < 4) ∧ 0 ≤ v ∧ v ≤ 99) → K σ (some (vI (-1)))) (q2 : ∀ k : Nat, c = k → k < 4 → 0 ≤ v → v ≤ 99 → K (zsetA σ 12 (zup (σ.2 12) (5 + k) v)) (some (vI (p k)))) : zC (d + 2 + 1) 88 [vR (27), vI (c), vI (v)] σ K := by
  refine zC_in rfl ?_
  show zG (d + 2) 88 K 0 zfx (0, [vR (27), vI (c), vI (v)], [], σ)
  refine r_iload k_88_0 rfl ?_
  refine r_cnv (w := vL (c)) k_88_1 rfl ?_
  refine r_lconst k_88_2 ?_
  refine r_lconst k_88_3 ?_
  refine r_call (as := [vL (c), vL (0), vL (3)]) (r := []) k_88_6 rfl rfl rfl ?_
  refine t_in (fun g6 => ?_) (fun g6 => ?_)
  · skip
    refine r_if_eq k_88_9 (fun hz => absurd hz (by decide)) (fun _ => ?_)
    refine r_iload k_88_12 rfl ?_
    refine r_cnv (w := vL (v)) k_88_13 rfl ?_
    refine r_lconst k_88_14 ?_
    refine r_lconst k_88_15 ?_
    refine r_call (as := [vL (v), vL (0), vL (99)]) (r := []) k_88_18 rfl rfl rfl ?_
    refine t_in (fun g18 => ?_) (fun g18 => ?_)
    · skip
      refine r_if_eq k_88_21 (fun hz => absurd hz (by decide)) (fun _ => ?_)
      refine r_aload k_88_24 rfl ?_
      refine r_const k_88_25 ?_
      refine r_iload k_88_26 rfl ?_
      refine r_bin (v := 5 + c) k_88_27 (zb_add ⟨by omega, by omega⟩) ?_
      refine r_iload k_88_28 rfl ?_
      refine r_call (as := [vR (27), vI (5 + c), vI (v)]) (r := []) k_88_29 rfl rfl rfl ?_
      refine y_changed (k := 5 + c.toNat) (was := p c.toNat) (by omega) (by omega) (hy.2.2.2.2.2.1 _ (by omega)) ?_
      refine r_goto k_88_32 ?_
      refine r_iret k_88_36 ?_
      exact q2 c.toNat (by omega) (by omega) (by omega) (by omega)
    · skip
      refine r_if_eq k_88_21 (fun _ => ?_) (fun hz => absurd hz (by decide))
      refine r_const k_88_35 ?_
      refine r_iret k_88_36 ?_
      exact q1 (by omega)
  · skip
    refine r_if_eq k_88_9 (fun _ => ?_) (fun hz => absurd hz (by decide))
    refine r_const k_88_35 ?_
    refine r_iret k_88_36 ?_
    exact q1 (by omega)
theorem p_price {d : Nat} {σ : zM} (h : zInv σ) {c v : Int} : zC (d + 41) 28 [vR 0, vI c, vI v] σ (fun σ1 r1 => zC (d + 5) 88 [vR 27, vI c, vI v] σ1 (zpq σ1 r1)) := by
  obtain ⟨C, law, least, draw, l, p, hg, hx, hy⟩ := h.1
  refine x_price (d := d + 39) hg hx (fun q => y_price (d := d + 2) hg hy (fun _ => ⟨⟨_, rfl, rfl⟩, h⟩) (fun k e1 e2 e3 e4 => absurd ⟨⟨by omega, by omega⟩, e3, e4⟩ q)) (fun k e1 e2 e3 e4 => ?_)
  refine y_price (d := d + 2) (σ := zsetA σ 4 (zup (σ.2 4) k v)) hg hy (fun q => absurd ⟨⟨by omega, by omega⟩, e3, e4⟩ q) (fun k2 e5 e6 _ _ => ?_)
  obtain rfl : k2 = k := by omega
  refine ⟨⟨_, rfl, rfl⟩, ?_⟩
  have f2 : zfr [] [4, 12] σ (zsetA (zsetA σ 4 (zup (σ.2 4) k2 v)) 12 (zup (σ.2 12) (5 + k2) v)) := zfr_A (zfr_A zfr_rf (by decide)) (by decide)
  refine ⟨⟨C, law, least, draw, l, zup p k2 v, ⟨hg.1, hg.2.1, hg.2.2.1, hg.2.2.2.1, fun k hk => ?_⟩, ⟨zrl_fr hx.1 f2 (by decide), zis_fr hx.2.1 f2 (by decide) (by decide), fun k hk => ?_, (f2.1 10 (by decide)).trans hx.2.2.2⟩, ?_⟩, zOth_fr h.2 f2 (by decide) (by decide)⟩
  · unfold zup
    split
    · exact ⟨e3, e4⟩
    · exact hg.2.2.2.2 k hk
  · show zup (σ.2 4) k2 v k = zup p k2 v k
    unfold zup
    rw [hx.2.2.1 k hk]
  show zYn (zup (σ.2 12) (5 + k2) v) C law least draw l (zup p k2 v)
  obtain ⟨a0, a1, a2, a3, a4, a5, a6⟩ := hy
  refine ⟨?_, ?_, ?_, ?_, ?_, fun k hk => ?_, fun k hk => ?_⟩
  · rw [zup_n (by omega)]; exact a0
  · rw [zup_n (by omega)]; exact a1
  · rw [zup_n (by omega)]; exact a2
  · rw [zup_n (by omega)]; exact a3
  · rw [zup_n (by omega)]; exact a4
  · by_cases hkk : k = k2
    · subst hkk; rw [zup_1, zup_1]
    · rw [zup_n (by omega), zup_n hkk]; exact a5 k hk
  · rw [zup_n (by omega)]; exact a6 k hk
