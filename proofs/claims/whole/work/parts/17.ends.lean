/-! contracts: stretches, faults -/
theorem s_tally {d : Nat} {σ : zM} {K : zM → Option zV → Prop} {c : Int} (h0 : 0 ≤ c) (h4 : c < 4) (q1 : K σ (some (vL (zpw c)))) : zC (d + 1) 19 [vI (c)] σ K := by
  refine zC_in rfl ?_
  show zG d 19 K 0 zfx (0, [vI (c)], [], σ)
  refine r_lconst k_19_0 ?_
  refine r_const k_19_1 ?_
  refine r_iload k_19_3 rfl ?_
  refine r_bin (v := 16 * c) k_19_4 (zb_mul ⟨by omega, by omega⟩) ?_
  refine r_lsh (v := zpw c) k_19_5 (zlsh_pw h0 h4) ?_
  refine r_lret k_19_6 ?_
  first | exact q1
theorem s_mixed {d : Nat} {σ : zM} {K : zM → Option zV → Prop} {r : Nat} (hr : r < 4) {fr to : Nat} (hft : fr ≤ to) (hto : to ≤ 72) (hcol : ∀ k, fr ≤ k → k < to → 0 ≤ σ.2 r k ∧ σ.2 r k < 4) (q1 : K σ (some (vI ((zfirst (fun len => decide (2 * len ≤ to - fr)) (zanyb (σ.2 r) to) (to - fr + 1) 1 : Nat) : Int)))) : zC (d + 1 + 1) 18 [vR (zrw r), vI (fr), vI (to)] σ K := by
  refine zC_in rfl ?_
  have lp : ∀ (n : Nat) (s : Nat) (la bo : Int), s + n = to - fr + 2 → 1 ≤ s → 2 * s ≤ to - fr + 2 → la = zsum (σ.2 r) (to - (s - 1)) (s - 1) → bo = zsum (σ.2 r) (to - 2 * (s - 1)) (2 * (s - 1)) → K σ (some (vI ((zfirst (fun len => decide (2 * len ≤ to - fr)) (zanyb (σ.2 r) to) n s : Nat) : Int))) → zG (d + 1) 18 K 0 zfx (8, [vR (zrw r), vI (fr), vI (to), vL (la), vU, vL (bo), vU, vI (s)], [], σ) := by
    intro n
    induction n using Nat.strongRecOn with
    | _ n ih =>
    intro s la bo hn h1 h2 hla hbo hq
    have hlb := zsum_b (σ.2 r) (to - (s - 1)) (s - 1)
    have hbb := zsum_b (σ.2 r) (to - 2 * (s - 1)) (2 * (s - 1))
    rw [← hla] at hlb
    rw [← hbo] at hbb
    have hla2 : 2 * s ≤ to - fr → zsum (σ.2 r) (to - s) s = la + zpw (σ.2 r ((to : Int) - (s : Int)).toNat) := fun _ => by
      obtain ⟨m, rfl⟩ : ∃ m, s = m + 1 := ⟨s - 1, by omega⟩
      rw [zsum_left, hla, show m + 1 - 1 = m by omega, show to - (m + 1) + 1 = to - m by omega, show ((to : Int) - ((m + 1 : Nat) : Int)).toNat = to - (m + 1) by omega]; omega
    have hbo2 : 2 * s ≤ to - fr → zsum (σ.2 r) (to - 2 * s) (2 * s) = bo + (zpw (σ.2 r ((to : Int) - 2 * (s : Int) + 1).toNat) + zpw (σ.2 r ((to : Int) - 2 * (s : Int)).toNat)) := fun _ => by
      obtain ⟨m, rfl⟩ : ∃ m, s = m + 1 := ⟨s - 1, by omega⟩
      rw [show 2 * (m + 1) = 2 * m + 1 + 1 by omega, zsum_left, zsum_left, hbo, show m + 1 - 1 = m by omega, show to - (2 * m + 1 + 1) + 1 + 1 = to - 2 * m by omega, show to - (2 * m + 1 + 1) + 1 = to - (2 * m + 1) by omega, show ((to : Int) - 2 * ((m + 1 : Nat) : Int) + 1).toNat = to - (2 * m + 1) by omega, show ((to : Int) - 2 * ((m + 1 : Nat) : Int)).toNat = to - (2 * m + 1 + 1) by omega]; omega
    refine r_iload k_18_8 rfl ?_
    refine r_const k_18_10 ?_
    refine r_bin (v := s * 2) k_18_11 (zb_mul ⟨by omega, by omega⟩) ?_
    refine r_iload k_18_12 rfl ?_
    refine r_iload k_18_13 rfl ?_
    refine r_bin (v := to - fr) k_18_14 (zb_sub ⟨by omega, by omega⟩) ?_
    refine r_ic_gt k_18_15 (fun h15 => ?_) (fun h15 => ?_)
    · skip
      refine r_const k_18_86 ?_
      refine r_iret k_18_87 ?_
      exact zKe hq (by rw [zfirst_out (by simp; omega)]; rfl)
    · skip
      refine r_lload k_18_18 rfl ?_
      refine r_aload k_18_19 rfl ?_
      refine r_iload k_18_20 rfl ?_
      refine r_iload k_18_21 rfl ?_
      refine r_bin (v := to - s) k_18_23 (zb_sub ⟨by omega, by omega⟩) ?_
      refine r_call (as := [vR (zrw r), vI (to - s)]) (r := [vL (la)]) k_18_24 rfl (zrcv_o rfl (zrw_c hr)) rfl ?_
      refine s_atv (r := r) (v := σ.2 r (to - s : Int).toNat) hr (by omega) (by omega) rfl ?_
      refine r_call (as := [vI (σ.2 r (to - s : Int).toNat)]) (r := [vL (la)]) k_18_27 rfl rfl rfl ?_
      refine s_tally (hcol _ (by omega) (by omega)).1 (hcol _ (by omega) (by omega)).2 ?_
      refine r_lbin (v := la + (zpw (σ.2 r (to - s : Int).toNat))) k_18_30 (zl_add ⟨by have := zpw_b (σ.2 r ((to : Int) - (s : Int)).toNat); have := zpw_b (σ.2 r ((to : Int) - 2 * (s : Int) + 1).toNat); have := zpw_b (σ.2 r ((to : Int) - 2 * (s : Int)).toNat); omega, by have := zpw_b (σ.2 r ((to : Int) - (s : Int)).toNat); have := zpw_b (σ.2 r ((to : Int) - 2 * (s : Int) + 1).toNat); have := zpw_b (σ.2 r ((to : Int) - 2 * (s : Int)).toNat); omega⟩) ?_
      refine r_lstore (L' := [vR (zrw r), vI (fr), vI (to), vL (la + (zpw (σ.2 r (to - s : Int).toNat))), vU, vL (bo), vU, vI (s)]) k_18_31 rfl ?_
      refine r_lload k_18_32 rfl ?_
      refine r_aload k_18_34 rfl ?_
      refine r_iload k_18_35 rfl ?_
      refine r_const k_18_36 ?_
      refine r_iload k_18_37 rfl ?_
      refine r_bin (v := 2 * s) k_18_39 (zb_mul ⟨by omega, by omega⟩) ?_
      refine r_bin (v := to - (2 * s)) k_18_40 (zb_sub ⟨by omega, by omega⟩) ?_
      refine r_const k_18_41 ?_
      refine r_bin (v := to - (2 * s) + 1) k_18_42 (zb_add ⟨by omega, by omega⟩) ?_
      refine r_call (as := [vR (zrw r), vI (to - (2 * s) + 1)]) (r := [vL (bo)]) k_18_43 rfl (zrcv_o rfl (zrw_c hr)) rfl ?_
      refine s_atv (r := r) (v := σ.2 r (to - (2 * s) + 1 : Int).toNat) hr (by omega) (by omega) rfl ?_
      refine r_call (as := [vI (σ.2 r (to - (2 * s) + 1 : Int).toNat)]) (r := [vL (bo)]) k_18_46 rfl rfl rfl ?_
      refine s_tally (hcol _ (by omega) (by omega)).1 (hcol _ (by omega) (by omega)).2 ?_
      refine r_aload k_18_49 rfl ?_
      refine r_iload k_18_50 rfl ?_
      refine r_const k_18_51 ?_
      refine r_iload k_18_52 rfl ?_
      refine r_bin (v := 2 * s) k_18_54 (zb_mul ⟨by omega, by omega⟩) ?_
      refine r_bin (v := to - (2 * s)) k_18_55 (zb_sub ⟨by omega, by omega⟩) ?_
      refine r_call (as := [vR (zrw r), vI (to - (2 * s))]) (r := [vL (zpw (σ.2 r (to - (2 * s) + 1 : Int).toNat)), vL (bo)]) k_18_56 rfl (zrcv_o rfl (zrw_c hr)) rfl ?_
      refine s_atv (r := r) (v := σ.2 r (to - (2 * s) : Int).toNat) hr (by omega) (by omega) rfl ?_
      refine r_call (as := [vI (σ.2 r (to - (2 * s) : Int).toNat)]) (r := [vL (zpw (σ.2 r (to - (2 * s) + 1 : Int).toNat)), vL (bo)]) k_18_59 rfl rfl rfl ?_
      refine s_tally (hcol _ (by omega) (by omega)).1 (hcol _ (by omega) (by omega)).2 ?_
      refine r_lbin (v := (zpw (σ.2 r (to - (2 * s) + 1 : Int).toNat)) + (zpw (σ.2 r (to - (2 * s) : Int).toNat))) k_18_62 (zl_add ⟨by have := zpw_b (σ.2 r ((to : Int) - (s : Int)).toNat); have := zpw_b (σ.2 r ((to : Int) - 2 * (s : Int) + 1).toNat); have := zpw_b (σ.2 r ((to : Int) - 2 * (s : Int)).toNat); omega, by have := zpw_b (σ.2 r ((to : Int) - (s : Int)).toNat); have := zpw_b (σ.2 r ((to : Int) - 2 * (s : Int) + 1).toNat); have := zpw_b (σ.2 r ((to : Int) - 2 * (s : Int)).toNat); omega⟩) ?_
      refine r_lbin (v := bo + ((zpw (σ.2 r (to - (2 * s) + 1 : Int).toNat)) + (zpw (σ.2 r (to - (2 * s) : Int).toNat)))) k_18_63 (zl_add ⟨by have := zpw_b (σ.2 r ((to : Int) - (s : Int)).toNat); have := zpw_b (σ.2 r ((to : Int) - 2 * (s : Int) + 1).toNat); have := zpw_b (σ.2 r ((to : Int) - 2 * (s : Int)).toNat); omega, by have := zpw_b (σ.2 r ((to : Int) - (s : Int)).toNat); have := zpw_b (σ.2 r ((to : Int) - 2 * (s : Int) + 1).toNat); have := zpw_b (σ.2 r ((to : Int) - 2 * (s : Int)).toNat); omega⟩) ?_
      refine r_lstore (L' := [vR (zrw r), vI (fr), vI (to), vL (la + (zpw (σ.2 r (to - s : Int).toNat))), vU, vL (bo + ((zpw (σ.2 r (to - (2 * s) + 1 : Int).toNat)) + (zpw (σ.2 r (to - (2 * s) : Int).toNat)))), vU, vI (s)]) k_18_64 rfl ?_
      refine r_lload k_18_66 rfl ?_
      refine r_lconst k_18_68 ?_
      refine r_lload k_18_71 rfl ?_
      refine r_lbin (v := 2 * (la + (zpw (σ.2 r (to - s : Int).toNat)))) k_18_72 (zl_mul ⟨by have := zpw_b (σ.2 r ((to : Int) - (s : Int)).toNat); have := zpw_b (σ.2 r ((to : Int) - 2 * (s : Int) + 1).toNat); have := zpw_b (σ.2 r ((to : Int) - 2 * (s : Int)).toNat); omega, by have := zpw_b (σ.2 r ((to : Int) - (s : Int)).toNat); have := zpw_b (σ.2 r ((to : Int) - 2 * (s : Int) + 1).toNat); have := zpw_b (σ.2 r ((to : Int) - 2 * (s : Int)).toNat); omega⟩) ?_
      refine r_lcmp (v := zcmp (bo + ((zpw (σ.2 r (to - (2 * s) + 1 : Int).toNat)) + (zpw (σ.2 r (to - (2 * s) : Int).toNat)))) (2 * (la + (zpw (σ.2 r (to - s : Int).toNat))))) k_18_73 rfl ?_
      refine r_if_ne k_18_74 (fun h74 => ?_) (fun h74 => ?_)
      · skip
        replace h74 := zcmp_ne.mp h74
        refine r_iinc (v := s + 1) (L' := [vR (zrw r), vI (fr), vI (to), vL (la + (zpw (σ.2 r (to - s : Int).toNat))), vU, vL (bo + ((zpw (σ.2 r (to - (2 * s) + 1 : Int).toNat)) + (zpw (σ.2 r (to - (2 * s) : Int).toNat)))), vU, vI (s + 1)]) k_18_80 rfl (zb_add ⟨by omega, by omega⟩) rfl ?_
        refine r_goto k_18_83 ?_
        obtain ⟨n2, rfl⟩ : ∃ n2, n = n2 + 1 := ⟨n - 1, by omega⟩
        have hla3 := hla2 (by omega)
        have hbo3 := hbo2 (by omega)
        refine ih n2 (by omega) (s + 1) _ _ (by omega) (by omega) (by omega) (by rw [show s + 1 - 1 = s by omega]; exact hla3.symm) (by rw [show s + 1 - 1 = s by omega]; exact hbo3.symm) ?_
        rw [zfirst_on (by simp; omega)] at hq
        · exact hq
        · cases hb : zanyb (σ.2 r) to s with
          | false => rfl
          | true =>
            exfalso
            have := (zanyb_sum (by omega) hto (fun k g1 g2 => hcol k (by omega) g2)).mp hb
            rw [hla3, hbo3] at this
            exact h74 (by omega)
      · skip
        replace h74 := zcmp_eq.mp h74
        refine r_iload k_18_77 rfl ?_
        refine r_iret k_18_79 ?_
        have hla3 := hla2 (by omega)
        have hbo3 := hbo2 (by omega)
        obtain ⟨n2, rfl⟩ : ∃ n2, n = n2 + 1 := ⟨n - 1, by omega⟩
        exact zKe hq (by rw [zfirst_hit (by simp; omega) ((zanyb_sum (by omega) hto (fun k g1 g2 => hcol k (by omega) g2)).mpr (by rw [hla3, hbo3]; omega))])
  show zG (d + 1) 18 K 0 zfx (0, [vR (zrw r), vI (fr), vI (to), vU, vU, vU, vU, vU], [], σ)
  refine r_lconst k_18_0 ?_
  refine r_lstore (L' := [vR (zrw r), vI (fr), vI (to), vL (0), vU, vU, vU, vU]) k_18_1 rfl ?_
  refine r_lconst k_18_2 ?_
  refine r_lstore (L' := [vR (zrw r), vI (fr), vI (to), vL (0), vU, vL (0), vU, vU]) k_18_3 rfl ?_
  refine r_const k_18_5 ?_
  refine r_istore (L' := [vR (zrw r), vI (fr), vI (to), vL (0), vU, vL (0), vU, vI (1)]) k_18_6 rfl ?_
  exact lp (to - fr + 1) 1 0 0 (by omega) (by omega) (by omega) rfl rfl q1
