/-! colours: the two alike -/
theorem zmem_lf {l : List Int} {x : Int} (h : x ∈ l) : ∃ j, j < l.length ∧ zlf l j = x := by
  obtain ⟨j, hj, e⟩ := List.getElem_of_mem h
  exact ⟨j, hj, by unfold zlf; rw [List.getD_eq_getElem?_getD, List.getElem?_eq_getElem hj, e]; rfl⟩
theorem zYn_0 {a : Nat → Int} {C C2 : Nat} {law least draw : Int} {l : List Int} {p : Nat → Int} (h : zYn a C law least draw l p) : zYn (zup a 0 C2) C2 law least draw l p := by
  obtain ⟨a0, a1, a2, a3, a4, a5, a6⟩ := h
  exact ⟨rfl, a1, a2, a3, a4, fun k hk => by rw [zup_n (by omega)]; exact a5 k hk, fun k hk => by rw [zup_n (by omega)]; exact a6 k hk⟩
theorem zYn_1 {a : Nat → Int} {C : Nat} {law least draw v : Int} {l : List Int} {p : Nat → Int} (h : zYn a C law least draw l p) : zYn (zup a 1 v) C v least draw l p := by
  obtain ⟨a0, a1, a2, a3, a4, a5, a6⟩ := h
  exact ⟨a0, rfl, a2, a3, a4, fun k hk => by rw [zup_n (by omega)]; exact a5 k hk, fun k hk => by rw [zup_n (by omega)]; exact a6 k hk⟩
theorem zYn_2 {a : Nat → Int} {C : Nat} {law least draw v : Int} {l : List Int} {p : Nat → Int} (h : zYn a C law least draw l p) : zYn (zup a 2 v) C law v draw l p := by
  obtain ⟨a0, a1, a2, a3, a4, a5, a6⟩ := h
  exact ⟨a0, a1, rfl, a3, a4, fun k hk => by rw [zup_n (by omega)]; exact a5 k hk, fun k hk => by rw [zup_n (by omega)]; exact a6 k hk⟩
theorem x_colours {d : Nat} {σ : zM} {K : zM → Option zV → Prop} {C : Nat} {law least draw : Int} {l : List Int} {p : Nat → Int} (hg : zgd C law least draw l p) (hx : zXn σ C law least draw l p) {v : Int} (q1 : ¬ (2 ≤ v ∧ v ≤ 4) → K σ (some (vI (-1)))) (q2 : 2 ≤ v → v ≤ 4 → ∀ j, j < l.length → v ≤ zlf l j → K σ (some (vI (-2)))) (q3 : 2 ≤ v → v ≤ 4 → (∀ j, j < l.length → zlf l j < v) → K (zsetS σ 4 v) (some (vI C))) : zC (d + 2 + 1) 27 [vR (0), vI (v)] σ K := by
  have hl := hg.2.2.1
  refine zC_in rfl ?_
  have lp : ∀ (n : Nat) (i : Nat), l.length - i = n → i ≤ l.length → 2 ≤ v → v ≤ 4 → (∀ j, j < i → zlf l j < v) → zG (d + 2) 27 K 0 zfx (14, [vR (0), vI (v), vI ((i : Int))], [], σ) := by
    intro n
    induction n using Nat.strongRecOn with
    | _ n ih =>
    intro i hn g1 hv2 hv4 ha
    refine r_iload k_27_14 rfl ?_
    refine r_aload k_27_15 rfl ?_
    refine r_getR (q := 1) k_27_16 ⟨rfl, rfl⟩ ?_
    refine r_getR (q := 2) k_27_19 ⟨rfl, rfl⟩ ?_
    refine r_getS (v := (l.length : Int)) k_27_22 ⟨rfl, rfl⟩ hx.2.1.1 ?_
    refine r_ic_ge k_27_25 (fun h25 => ?_) (fun h25 => ?_)
    · skip
      refine r_aload k_27_52 rfl ?_
      refine r_getR (q := 1) k_27_53 ⟨rfl, rfl⟩ ?_
      refine r_getR (q := 4) k_27_56 ⟨rfl, rfl⟩ ?_
      refine r_getS (v := C) k_27_59 ⟨rfl, rfl⟩ hx.1.1 ?_
      refine r_istore (L' := [vR (0), vI (v), vI (C)]) k_27_62 rfl ?_
      refine r_aload k_27_63 rfl ?_
      refine r_getR (q := 1) k_27_64 ⟨rfl, rfl⟩ ?_
      refine r_getR (q := 4) k_27_67 ⟨rfl, rfl⟩ ?_
      refine r_iload k_27_70 rfl ?_
      refine r_putS k_27_71 ⟨rfl, rfl⟩ ?_
      refine r_iload k_27_74 rfl ?_
      refine r_iret k_27_75 ?_
      exact q3 (by omega) (by omega) (fun j hj => ha j (by omega))
    · skip
      refine r_aload k_27_28 rfl ?_
      refine r_getR (q := 1) k_27_29 ⟨rfl, rfl⟩ ?_
      refine r_getR (q := 2) k_27_32 ⟨rfl, rfl⟩ ?_
      refine r_iload k_27_35 rfl ?_
      refine r_call (as := [vR (2), vI ((i : Int))]) (r := []) k_27_36 rfl rfl rfl ?_
      refine v_at (r := 0) (l := l) (k := i) (by decide) hx.2.1 (by omega) (by omega) (by omega) ?_
      refine r_iload k_27_39 rfl ?_
      refine r_ic_lt k_27_40 (fun h40 => ?_) (fun h40 => ?_)
      · skip
        refine r_iinc (v := (i : Int) + 1) (L' := [vR (0), vI (v), vI ((i : Int) + 1)]) k_27_46 rfl (zb_add ⟨by omega, by omega⟩) rfl ?_
        refine r_goto k_27_49 ?_
        exact ih _ (by omega) (i + 1) rfl (by omega) hv2 hv4 (fun j hj => by
          by_cases hji : j = i
          · subst hji; omega
          · exact ha j (by omega))
      · skip
        refine r_const k_27_43 ?_
        refine r_iret k_27_45 ?_
        exact q2 (by omega) (by omega) i (by omega) (by omega)
  show zG (d + 2) 27 K 0 zfx (0, [vR (0), vI (v), vU], [], σ)
  refine r_iload k_27_0 rfl ?_
  refine r_const k_27_1 ?_
  refine r_ic_lt k_27_2 (fun h2 => ?_) (fun h2 => ?_)
  · skip
    refine r_const k_27_10 ?_
    refine r_iret k_27_11 ?_
    exact q1 (by omega)
  · skip
    refine r_iload k_27_5 rfl ?_
    refine r_const k_27_6 ?_
    refine r_ic_le k_27_7 (fun h7 => ?_) (fun h7 => ?_)
    · skip
      refine r_const k_27_12 ?_
      refine r_istore (L' := [vR (0), vI (v), vI (0)]) k_27_13 rfl ?_
      exact lp _ 0 rfl (by omega) (by omega) (by omega) (fun j hj => by omega)
    · skip
      refine r_const k_27_10 ?_
      refine r_iret k_27_11 ?_
      exact q1 (by omega)
theorem y_colours {d : Nat} {σ : zM} {K : zM → Option zV → Prop} {C : Nat} {law least draw : Int} {l : List Int} {p : Nat → Int} (hg : zgd C law least draw l p) (hy : zYn (σ.2 12) C law least draw l p) {v : Int} (q1 : ¬ (2 ≤ v ∧ v ≤ 4) → K σ (some (vI (-1)))) (q2 : 2 ≤ v → v ≤ 4 → ∀ j, j < l.length → v ≤ zlf l j → K σ (some (vI (-2)))) (q3 : 2 ≤ v → v ≤ 4 → (∀ j, j < l.length → zlf l j < v) → K (zsetA σ 12 (zup (σ.2 12) 0 v)) (some (vI C))) : zC (d + 2 + 1) 87 [vR (27), vI (v)] σ K := by
  have hl := hg.2.2.1
  refine zC_in rfl ?_
  have lp : ∀ (n : Nat) (i : Nat), l.length - i = n → i ≤ l.length → 2 ≤ v → v ≤ 4 → (∀ j, j < i → zlf l j < v) → zG (d + 2) 87 K 0 zfx (18, [vR (27), vI (v), vI ((i : Int))], [], σ) := by
    intro n
    induction n using Nat.strongRecOn with
    | _ n ih =>
    intro i hn g1 hv2 hv4 ha
    refine r_iload k_87_18 rfl ?_
    refine r_aload k_87_19 rfl ?_
    refine r_getR (q := 28) k_87_20 ⟨rfl, rfl⟩ ?_
    refine r_const k_87_23 ?_
    refine r_iald (v := (l.length : Int)) k_87_24 ⟨rfl, rfl⟩ ⟨by decide, by decide⟩ hy.2.2.2.2.1 ?_
    refine r_ic_ge k_87_25 (fun h25 => ?_) (fun h25 => ?_)
    · skip
      refine r_aload k_87_50 rfl ?_
      refine r_const k_87_51 ?_
      refine r_iload k_87_52 rfl ?_
      refine r_call (as := [vR (27), vI (0), vI (v)]) (r := []) k_87_53 rfl rfl rfl ?_
      refine y_changed (k := 0) rfl (by decide) hy.1 ?_
      refine r_iret k_87_56 ?_
      exact q3 (by omega) (by omega) (fun j hj => ha j (by omega))
    · skip
      refine r_aload k_87_28 rfl ?_
      refine r_getR (q := 28) k_87_29 ⟨rfl, rfl⟩ ?_
      refine r_const k_87_32 ?_
      refine r_iload k_87_34 rfl ?_
      refine r_bin (v := 9 + ((i : Int))) k_87_35 (zb_add ⟨by omega, by omega⟩) ?_
      refine r_iald (v := (zlf l i)) k_87_36 ⟨rfl, rfl⟩ ⟨by omega, by omega⟩ (by rw [show (9 + ((i : Int)) : Int).toNat = 9 + i by omega]; exact hy.2.2.2.2.2.2 _ (by omega)) ?_
      refine r_iload k_87_37 rfl ?_
      refine r_ic_lt k_87_38 (fun h38 => ?_) (fun h38 => ?_)
      · skip
        refine r_iinc (v := (i : Int) + 1) (L' := [vR (27), vI (v), vI ((i : Int) + 1)]) k_87_44 rfl (zb_add ⟨by omega, by omega⟩) rfl ?_
        refine r_goto k_87_47 ?_
        exact ih _ (by omega) (i + 1) rfl (by omega) hv2 hv4 (fun j hj => by
          by_cases hji : j = i
          · subst hji; omega
          · exact ha j (by omega))
      · skip
        refine r_const k_87_41 ?_
        refine r_iret k_87_43 ?_
        exact q2 (by omega) (by omega) i (by omega) (by omega)
  show zG (d + 2) 87 K 0 zfx (0, [vR (27), vI (v), vU], [], σ)
  refine r_iload k_87_0 rfl ?_
  refine r_cnv (w := vL (v)) k_87_1 rfl ?_
  refine r_lconst k_87_2 ?_
  refine r_lconst k_87_5 ?_
  refine r_call (as := [vL (v), vL (2), vL (4)]) (r := []) k_87_8 rfl rfl rfl ?_
  refine t_in (fun g8 => ?_) (fun g8 => ?_)
  · skip
    refine r_if_ne k_87_11 (fun _ => ?_) (fun hz => absurd hz (by decide))
    refine r_const k_87_16 ?_
    refine r_istore (L' := [vR (27), vI (v), vI (0)]) k_87_17 rfl ?_
    exact lp _ 0 rfl (by omega) (by omega) (by omega) (fun j hj => by omega)
  · skip
    refine r_if_ne k_87_11 (fun hz => absurd hz (by decide)) (fun _ => ?_)
    refine r_const k_87_14 ?_
    refine r_iret k_87_15 ?_
    exact q1 (by omega)
theorem p_colours {d : Nat} {σ : zM} (h : zInv σ) {v : Int} : zC (d + 41) 27 [vR 0, vI v] σ (fun σ1 r1 => zC (d + 5) 87 [vR 27, vI v] σ1 (zpq σ1 r1)) := by
  obtain ⟨C, law, least, draw, l, p, hg, hx, hy⟩ := h.1
  refine x_colours (d := d + 38) hg hx (fun q => y_colours (d := d + 2) hg hy (fun _ => ⟨⟨_, rfl, rfl⟩, h⟩) (fun a b _ _ _ => absurd ⟨a, b⟩ q) (fun a b _ => absurd ⟨a, b⟩ q)) (fun a b j c e => y_colours (d := d + 2) hg hy (fun q => absurd ⟨a, b⟩ q) (fun _ _ _ _ _ => ⟨⟨_, rfl, rfl⟩, h⟩) (fun _ _ f => absurd (f j c) (by omega))) (fun a b f => ?_)
  refine y_colours (d := d + 2) (σ := zsetS σ 4 v) hg hy (fun q => absurd ⟨a, b⟩ q) (fun _ _ j c e => absurd (f j c) (by omega)) (fun _ _ _ => ⟨⟨_, rfl, rfl⟩, ?_⟩)
  obtain ⟨k, rfl⟩ : ∃ k : Nat, v = k := ⟨v.toNat, by omega⟩
  have f2 : zfr [4] [12] σ (zsetA (zsetS σ 4 k) 12 (zup (σ.2 12) 0 k)) := zfr_A (zfr_S zfr_rf (by decide)) (by decide)
  refine ⟨⟨k, law, least, draw, l, p, ⟨⟨a, b, hg.1.2.2⟩, hg.2.1, hg.2.2.1, fun x hx0 => ?_, hg.2.2.2.2⟩, ⟨⟨rfl, (f2.1 5 (by decide)).trans hx.1.2.1, (f2.1 6 (by decide)).trans hx.1.2.2⟩, zis_fr hx.2.1 f2 (by decide) (by decide), zpr_fr hx.2.2.1 f2 (by decide), (f2.1 10 (by decide)).trans hx.2.2.2⟩, zYn_0 hy⟩, zOth_fr h.2 f2 (by decide) (by decide)⟩
  obtain ⟨j, hj, rfl⟩ := zmem_lf hx0
  exact ⟨(hg.2.2.2.1 _ hx0).1, f j hj⟩
