/-! contracts: faults, what stands, rings, on lists -/
theorem s_faultOf {d : Nat} {σ : zM} {K : zM → Option zV → Prop} {r : Nat} (hr : r < 4) (hL : 0 ≤ σ.1 5 ∧ σ.1 5 ≤ 3) (hM : 1 ≤ σ.1 6 ∧ σ.1 6 ≤ 9) {l : List Int} (hz : zis σ r l) (hc : zcol l) (hl : l.length ≤ 72) (q1 : K σ (some (vI ((zfau (σ.1 5) (σ.1 6) l : Nat) : Int)))) : zC (d + 3 + 1) 13 [vR (4), vR (zrw r)] σ K := by
  refine zC_in rfl ?_
  have lp : ∀ (n : Nat) (e : Nat), l.length < e + n → 1 ≤ e → e ≤ 80 → K σ (some (vI ((zfirst (fun e => decide (e ≤ l.length)) (fun e => decide (zends (σ.1 5) (σ.1 6) (σ.2 r) e ≠ 0)) n e : Nat) : Int))) → zG (d + 3) 13 K 0 zfx (2, [vR (4), vR (zrw r), vI (e)], [], σ) := by
    intro n
    induction n using Nat.strongRecOn with
    | _ n ih =>
    intro e hn h1 h2 hq
    refine r_iload k_13_2 rfl ?_
    refine r_aload k_13_3 rfl ?_
    refine r_getS (v := l.length) k_13_4 (zrw_1 hr) hz.1 ?_
    refine r_ic_gt k_13_7 (fun h7 => ?_) (fun h7 => ?_)
    · skip
      refine r_const k_13_28 ?_
      refine r_iret k_13_29 ?_
      exact zKe hq (by rw [zfirst_out (decide_eq_false (by omega))]; rfl)
    · skip
      refine r_aload k_13_10 rfl ?_
      refine r_aload k_13_11 rfl ?_
      refine r_const k_13_12 ?_
      refine r_iload k_13_13 rfl ?_
      refine r_call (as := [vR (4), vR (zrw r), vI (0), vI (e)]) (r := []) k_13_14 rfl rfl rfl ?_
      refine s_ends (to := e) hr hL hM (by omega) (fun k hk => zis_c hz hc k (by omega)) ?_
      refine r_if_eq k_13_17 (fun h17 => ?_) (fun h17 => ?_)
      · skip
        refine r_iinc (v := e + 1) (L' := [vR (4), vR (zrw r), vI (e + 1)]) k_13_22 rfl (zb_add ⟨by omega, by omega⟩) rfl ?_
        refine r_goto k_13_25 ?_
        obtain ⟨n2, rfl⟩ : ∃ n2, n = n2 + 1 := ⟨n - 1, by omega⟩
        refine ih n2 (by omega) (e + 1) (by omega) (by omega) (by omega) ?_
        rw [zfirst_on (decide_eq_true (by omega)) (decide_eq_false (by omega))] at hq
        exact hq
      · skip
        refine r_iload k_13_20 rfl ?_
        refine r_iret k_13_21 ?_
        obtain ⟨n2, rfl⟩ : ∃ n2, n = n2 + 1 := ⟨n - 1, by omega⟩
        exact zKe hq (by rw [zfirst_hit (decide_eq_true (by omega)) (decide_eq_true (by omega))])
  show zG (d + 3) 13 K 0 zfx (0, [vR (4), vR (zrw r), vU], [], σ)
  refine r_const k_13_0 ?_
  refine r_istore (L' := [vR (4), vR (zrw r), vI (1)]) k_13_1 rfl ?_
  refine lp (l.length + 1) 1 (by omega) (by omega) (by omega) (zKe q1 ?_)
  rw [← zis_fau hz]
  rfl
def zhold (law least : Int) (l : List Int) (fr to : Nat) : Prop := ∀ e, fr < e → e ≤ to → zend law least (l.take e) = 0
theorem s_holds {d : Nat} {σ : zM} {K : zM → Option zV → Prop} {r : Nat} (hr : r < 4) (hL : 0 ≤ σ.1 5 ∧ σ.1 5 ≤ 3) (hM : 1 ≤ σ.1 6 ∧ σ.1 6 ≤ 9) {l : List Int} (hz : zis σ r l) (hc : zcol l) (hl : l.length ≤ 72) {fr to : Nat} (hft : fr ≤ to) (hto : to ≤ l.length) (q1 : zhold (σ.1 5) (σ.1 6) l fr to → K σ (some (vI 1))) (q2 : ¬ zhold (σ.1 5) (σ.1 6) l fr to → K σ (some (vI 0))) : zC (d + 3 + 1) 14 [vR (4), vR (zrw r), vI (fr), vI (to)] σ K := by
  refine zC_in rfl ?_
  have lp : ∀ (n : Nat) (e : Nat), to + 1 - e = n → fr < e → e ≤ to + 1 → zhold (σ.1 5) (σ.1 6) l fr (e - 1) → zG (d + 3) 14 K 0 zfx (5, [vR (4), vR (zrw r), vI (fr), vI (to), vI (e)], [], σ) := by
    intro n
    induction n using Nat.strongRecOn with
    | _ n ih =>
    intro e hn h1 h2 hh
    refine r_iload k_14_5 rfl ?_
    refine r_iload k_14_7 rfl ?_
    refine r_ic_gt k_14_8 (fun h8 => ?_) (fun h8 => ?_)
    · skip
      refine r_const k_14_30 ?_
      refine r_zret k_14_31 (by omega) ?_
      exact q1 (fun j g1 g2 => hh j g1 (by omega))
    · skip
      refine r_aload k_14_11 rfl ?_
      refine r_aload k_14_12 rfl ?_
      refine r_const k_14_13 ?_
      refine r_iload k_14_14 rfl ?_
      refine r_call (as := [vR (4), vR (zrw r), vI (0), vI (e)]) (r := []) k_14_16 rfl rfl rfl ?_
      refine s_ends (to := e) hr hL hM (by omega) (fun k hk => zis_c hz hc k (by omega)) ?_
      refine r_if_eq k_14_19 (fun h19 => ?_) (fun h19 => ?_)
      · skip
        refine r_iinc (v := e + 1) (L' := [vR (4), vR (zrw r), vI (fr), vI (to), vI (e + 1)]) k_14_24 rfl (zb_add ⟨by omega, by omega⟩) rfl ?_
        refine r_goto k_14_27 ?_
        refine ih _ (by omega) (e + 1) rfl (by omega) (by omega) (fun j g1 g2 => ?_)
        by_cases hj : j = e
        · subst hj; rw [← zis_endt hz (by omega)]; omega
        · exact hh j g1 (by omega)
      · skip
        refine r_const k_14_22 ?_
        refine r_zret k_14_23 (by omega) ?_
        exact q2 (fun q => by have := q e (by omega) (by omega); rw [← zis_endt hz (by omega)] at this; omega)
  show zG (d + 3) 14 K 0 zfx (0, [vR (4), vR (zrw r), vI (fr), vI (to), vU], [], σ)
  refine r_iload k_14_0 rfl ?_
  refine r_const k_14_1 ?_
  refine r_bin (v := fr + 1) k_14_2 (zb_add ⟨by omega, by omega⟩) ?_
  refine r_istore (L' := [vR (4), vR (zrw r), vI (fr), vI (to), vI (fr + 1)]) k_14_3 rfl ?_
  exact lp _ (fr + 1) rfl (by omega) (by omega) (fun j g1 g2 => by omega)
theorem s_stands {d : Nat} {σ : zM} {K : zM → Option zV → Prop} {r : Nat} (hr : r < 4) (hL : 0 ≤ σ.1 5 ∧ σ.1 5 ≤ 3) (hM : 1 ≤ σ.1 6 ∧ σ.1 6 ≤ 9) {l : List Int} (hz : zis σ r l) (hc : zcol l) (hl : l.length < 72) {c : Int} (h0 : 0 ≤ c) (h4 : c < 4) (q1 : ∀ τ, zfr [r] [r] σ τ → zis τ r (l ++ [c]) → zend (σ.1 5) (σ.1 6) (l ++ [c]) = 0 → K τ (some (vI 1))) (q2 : ∀ τ, zfr [r] [r] σ τ → zis τ r (l ++ [c]) → zend (σ.1 5) (σ.1 6) (l ++ [c]) ≠ 0 → K τ (some (vI 0))) : zC (d + 3 + 1) 15 [vR (4), vR (zrw r), vI (c)] σ K := by
  refine zC_in rfl ?_
  show zG (d + 3) 15 K 0 zfx (0, [vR (4), vR (zrw r), vI (c)], [], σ)
  refine r_aload k_15_0 rfl ?_
  refine r_iload k_15_1 rfl ?_
  refine r_call (as := [vR (zrw r), vI (c)]) (r := []) k_15_2 rfl (zrcv_o rfl (zrw_c hr)) rfl ?_
  refine s_add hr (fun _ _ => ?_) (fun q => absurd hl (by rw [hz.1] at q; omega))
  obtain ⟨τ, hτ⟩ : ∃ τ, τ = zsetS (zsetA σ r (zup (σ.2 r) (σ.1 r).toNat c)) r (σ.1 r + 1) := ⟨_, rfl⟩
  rw [← hτ]
  have hf : zfr [r] [r] σ τ := by rw [hτ]; exact zfr_S (zfr_A zfr_rf (by simp)) (by simp)
  have hn : (σ.1 r).toNat = l.length := by rw [hz.1]; omega
  have h7 : zis τ r (l ++ [c]) := zis_add hz (by rw [hτ, zS_1, hz.1]) (fun k hk => by rw [hτ, zS_2, zA_2, zup_n (by omega)]) (by rw [hτ, zS_2, zA_2, hn, zup_1])
  have e5 := hf.1 5 (by simp; omega)
  have e6 := hf.1 6 (by simp; omega)
  have hll : (l ++ [c]).length = l.length + 1 := by simp
  have hzt : τ.1 r = ((l.length + 1 : Nat) : Int) := by rw [h7.1, hll]
  refine r_aload k_15_5 rfl ?_
  refine r_aload k_15_6 rfl ?_
  refine r_const k_15_7 ?_
  refine r_aload k_15_8 rfl ?_
  refine r_getS (v := ((l.length + 1 : Nat) : Int)) k_15_9 (zrw_1 hr) hzt ?_
  refine r_call (as := [vR (4), vR (zrw r), vI (0), vI (((l.length + 1 : Nat) : Int))]) (r := []) k_15_12 rfl rfl rfl ?_
  refine s_ends (to := l.length + 1) hr (by rw [e5]; exact hL) (by rw [e6]; exact hM) (by omega) (fun k hk => zis_c h7 (zcol_a hc h0 h4) k (by omega)) ?_
  rw [e5, e6, ← hll, zis_end h7]
  refine r_if_ne k_15_15 (fun h15 => ?_) (fun h15 => ?_)
  · skip
    refine r_const k_15_22 ?_
    refine r_zret k_15_23 (by omega) ?_
    exact q2 τ hf h7 (by omega)
  · skip
    refine r_const k_15_18 ?_
    refine r_goto k_15_19 ?_
    refine r_zret k_15_23 (by omega) ?_
    exact q1 τ hf h7 (by omega)
theorem s_cutl {d : Nat} {σ : zM} {K : zM → Option zV → Prop} {r : Nat} (hr : r < 4) {l m : List Int} (hz : zis σ r (l ++ m)) (hl : (l ++ m).length ≤ 72) {n : Int} (hn : n = m.length) (q1 : ∀ τ, zfr [r] [] σ τ → zis τ r l → K τ none) : zC (d + 1) 4 [vR (zrw r), vI n] σ K := by
  have h1 := hz.1
  have h2 : (l ++ m).length = l.length + m.length := by simp
  refine s_cut hr (by omega) ?_
  have e : (if 0 < σ.1 r - n then σ.1 r - n else 0) = (l.length : Int) := by split <;> omega
  rw [e]
  exact q1 _ (zfr_S zfr_rf (by simp)) (zis_cut hz (zS_1 _ _ _) rfl)
theorem s_takel {d : Nat} {σ : zM} {K : zM → Option zV → Prop} {r t : Nat} (hr : r < 4) (ht : t < 4) {l : List Int} (hz : zis σ t l) (hl : l.length ≤ 72) {n : Int} {m : Nat} (hn : n = m) (hm : m ≤ l.length) (q1 : ∀ τ, zfr [r] [r] σ τ → zis τ r (l.take m) → K τ none) : zC (d + 1) 6 [vR (zrw r), vR (zrw t), vI n] σ K := by
  have h1 := hz.1
  have hlen : (l.take m).length = m := by rw [List.length_take]; omega
  refine s_take (t := t) (m := m) hr ht (by split <;> omega) (by omega) (by omega) (fun τ hf e1 e2 => q1 τ hf ⟨by rw [e1, hlen], fun k hk => ?_⟩)
  rw [e2 k (by omega), hz.2 k (by omega), zlf_t (by omega)]
