/-! seed, scrape: the two alike -/
theorem y_changed {d : Nat} {σ : zM} {K : zM → Option zV → Prop} {i v : Int} {k : Nat} {was : Int} (hi : i = k) (hk : k < 57) (hw : σ.2 12 k = was) (q1 : K (zsetA σ 12 (zup (σ.2 12) k v)) (some (vI was))) : zC (d + 1) 78 [vR 27, vI i, vI v] σ K := by
  subst hi
  refine zC_in rfl ?_
  show zG d 78 K 0 zfx (0, [vR 27, vI k, vI v, vU], [], σ)
  refine r_aload k_78_0 rfl ?_
  refine r_getR (q := 28) k_78_1 ⟨rfl, rfl⟩ ?_
  refine r_iload k_78_4 rfl ?_
  refine r_iald (v := was) k_78_5 ⟨rfl, rfl⟩ ⟨by omega, by omega⟩ hw ?_
  refine r_istore (L' := [vR (27), vI ((k : Int)), vI (v), vI (was)]) k_78_6 rfl ?_
  refine r_aload k_78_7 rfl ?_
  refine r_getR (q := 28) k_78_8 ⟨rfl, rfl⟩ ?_
  refine r_iload k_78_11 rfl ?_
  refine r_iload k_78_12 rfl ?_
  refine r_iast k_78_13 ⟨rfl, rfl⟩ ⟨by omega, by omega⟩ ?_
  refine r_iload k_78_14 rfl ?_
  refine r_iret k_78_15 ?_
  exact q1
theorem x_seed {d : Nat} {σ : zM} {K : zM → Option zV → Prop} {C : Nat} {law least draw : Int} {l : List Int} {p : Nat → Int} (hg : zgd C law least draw l p) (hx : zXn σ C law least draw l p) {v : Int} (q1 : v < 0 → K σ (some (vI (-1)))) (q2 : 0 ≤ v → K (zsetS σ 10 v) (some (vI draw))) : zC (d + 1) 62 [vR (0), vI (v)] σ K := by
  refine zC_in rfl ?_
  show zG (d) 62 K 0 zfx (0, [vR (0), vI (v), vU], [], σ)
  refine r_iload k_62_0 rfl ?_
  refine r_if_ge k_62_1 (fun h1 => ?_) (fun h1 => ?_)
  · skip
    refine r_aload k_62_6 rfl ?_
    refine r_getR (q := 1) k_62_7 ⟨rfl, rfl⟩ ?_
    refine r_getS (v := σ.1 10) k_62_10 ⟨rfl, rfl⟩ rfl ?_
    refine r_istore (L' := [vR (0), vI (v), vI (σ.1 10)]) k_62_13 rfl ?_
    refine r_aload k_62_14 rfl ?_
    refine r_getR (q := 1) k_62_15 ⟨rfl, rfl⟩ ?_
    refine r_iload k_62_18 rfl ?_
    refine r_putS k_62_19 ⟨rfl, rfl⟩ ?_
    refine r_iload k_62_22 rfl ?_
    refine r_iret k_62_23 ?_
    exact zKe (q2 (by omega)) hx.2.2.2.symm
  · skip
    refine r_const k_62_4 ?_
    refine r_iret k_62_5 ?_
    exact q1 (by omega)
theorem y_seed {d : Nat} {σ : zM} {K : zM → Option zV → Prop} {C : Nat} {law least draw : Int} {l : List Int} {p : Nat → Int} (hg : zgd C law least draw l p) (hy : zYn (σ.2 12) C law least draw l p) {v : Int} (q1 : v < 0 → K σ (some (vI (-1)))) (q2 : 0 ≤ v → K (zsetA σ 12 (zup (σ.2 12) 3 v)) (some (vI draw))) : zC (d + 1 + 1) 116 [vR (27), vI (v)] σ K := by
  refine zC_in rfl ?_
  show zG (d + 1) 116 K 0 zfx (0, [vR (27), vI (v)], [], σ)
  refine r_iload k_116_0 rfl ?_
  refine r_if_ge k_116_1 (fun h1 => ?_) (fun h1 => ?_)
  · skip
    refine r_aload k_116_8 rfl ?_
    refine r_const k_116_9 ?_
    refine r_iload k_116_10 rfl ?_
    refine r_call (as := [vR (27), vI (3), vI (v)]) (r := []) k_116_11 rfl rfl rfl ?_
    refine y_changed (k := 3) rfl (by decide) hy.2.2.2.1 ?_
    refine r_iret k_116_14 ?_
    exact q2 (by omega)
  · skip
    refine r_const k_116_4 ?_
    refine r_goto k_116_5 ?_
    refine r_iret k_116_14 ?_
    exact q1 (by omega)
/-- what is not of the row painted now -/
def zOth (σ : zM) : Prop := zIk σ ∧ zIt σ ∧ zIh σ
theorem zOth_fr {S A : List Nat} {σ τ : zM} (h : zOth σ) (hf : zfr S A σ τ) (hS : ∀ n ∈ S, n = 0 ∨ n = 2 ∨ n = 3 ∨ n = 4 ∨ n = 5 ∨ n = 6 ∨ n = 10) (hA : ∀ n ∈ A, n = 0 ∨ n = 2 ∨ n = 3 ∨ n = 4 ∨ n = 11 ∨ n = 12 ∨ 17 < n) : zOth τ := by
  have s : ∀ n, n ≠ 0 → n ≠ 2 → n ≠ 3 → n ≠ 4 → n ≠ 5 → n ≠ 6 → n ≠ 10 → n ∉ S := fun n h1 h2 h3 h4 h5 h6 h7 q => by have := hS n q; omega
  have a : ∀ n, n ≠ 0 → n ≠ 2 → n ≠ 3 → n ≠ 4 → n ≠ 11 → n ≠ 12 → n ≤ 17 → n ∉ A := fun n h1 h2 h3 h4 h5 h6 h7 q => by have := hA n q; omega
  exact ⟨zIk_fr h.1 hf ⟨s 12 (by decide) (by decide) (by decide) (by decide) (by decide) (by decide) (by decide), s 22 (by decide) (by decide) (by decide) (by decide) (by decide) (by decide) (by decide), s 7 (by decide) (by decide) (by decide) (by decide) (by decide) (by decide) (by decide), s 8 (by decide) (by decide) (by decide) (by decide) (by decide) (by decide) (by decide), s 9 (by decide) (by decide) (by decide) (by decide) (by decide) (by decide) (by decide), s 1 (by decide) (by decide) (by decide) (by decide) (by decide) (by decide) (by decide), s 11 (by decide) (by decide) (by decide) (by decide) (by decide) (by decide) (by decide)⟩ ⟨a 1 (by decide) (by decide) (by decide) (by decide) (by decide) (by decide) (by decide), a 5 (by decide) (by decide) (by decide) (by decide) (by decide) (by decide) (by decide), a 13 (by decide) (by decide) (by decide) (by decide) (by decide) (by decide) (by decide)⟩,
    zIt_fr h.2.1 hf ⟨s 13 (by decide) (by decide) (by decide) (by decide) (by decide) (by decide) (by decide), s 23 (by decide) (by decide) (by decide) (by decide) (by decide) (by decide) (by decide)⟩ ⟨a 6 (by decide) (by decide) (by decide) (by decide) (by decide) (by decide) (by decide), a 14 (by decide) (by decide) (by decide) (by decide) (by decide) (by decide) (by decide)⟩,
    zIh_fr h.2.2 hf (fun n q => by have := hS n q; omega) (fun n q => by have := hA n q; omega)⟩
theorem p_seed {d : Nat} {σ : zM} (h : zInv σ) {v : Int} (hv : v < 2147483648) : zC (d + 41) 62 [vR 0, vI v] σ (fun σ1 r1 => zC (d + 5) 116 [vR 27, vI v] σ1 (zpq σ1 r1)) := by
  obtain ⟨C, law, least, draw, l, p, hg, hx, hy⟩ := h.1
  refine x_seed (d := d + 40) hg hx (fun q => y_seed (d := d + 3) hg hy (fun _ => ⟨⟨_, rfl, rfl⟩, h⟩) (fun q2 => absurd q (by omega))) (fun q => ?_)
  refine y_seed (d := d + 3) (σ := zsetS σ 10 v) hg hy (fun q2 => absurd q (by omega)) (fun _ => ⟨⟨_, rfl, rfl⟩, ?_⟩)
  have f : zfr [10] [12] σ (zsetA (zsetS σ 10 v) 12 (zup (σ.2 12) 3 v)) := zfr_A (zfr_S zfr_rf (by decide)) (by decide)
  refine ⟨⟨C, law, least, v, l, p, ⟨hg.1, ⟨q, hv⟩, hg.2.2⟩, ⟨zrl_fr hx.1 f (by decide), zis_fr hx.2.1 f (by decide) (by decide), zpr_fr hx.2.2.1 f (by decide), rfl⟩, ?_⟩, zOth_fr h.2 f (by decide) (by decide)⟩
  show zYn (zup (σ.2 12) 3 v) C law least v l p
  obtain ⟨a0, a1, a2, a3, a4, a5, a6⟩ := hy
  exact ⟨a0, a1, a2, rfl, a4, fun k hk => by rw [zup_n (by omega)]; exact a5 k hk, fun k hk => by rw [zup_n (by omega)]; exact a6 k hk⟩
