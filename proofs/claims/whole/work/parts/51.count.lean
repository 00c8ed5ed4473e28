/-! count: the two alike -/
def zcp (p : Nat → Int) (l : List Int) : Nat → Int
  | 0 => 0
  | i + 1 => zcp p l i + p (zlf l i).toNat
def zcl (l : List Int) (c : Int) : Nat → Int
  | 0 => 0
  | i + 1 => zcl l c i + (if zlf l i = c then 1 else 0)
theorem zcp_b {p : Nat → Int} {l : List Int} (hp : ∀ k, k < 4 → 0 ≤ p k ∧ p k ≤ 99) (hc : zcol l) : ∀ i, i ≤ l.length → 0 ≤ zcp p l i ∧ zcp p l i ≤ 99 * (i : Int)
  | 0, _ => ⟨Int.le_refl _, Int.le_refl _⟩
  | i + 1, h => by
    have h1 := zcp_b hp hc i (by omega)
    have h2 := zcol_k hc (k := i) (by omega)
    have h3 := hp (zlf l i).toNat (by omega)
    rw [zcp]
    omega
theorem zcl_b {l : List Int} {c : Int} : ∀ i, 0 ≤ zcl l c i ∧ zcl l c i ≤ (i : Int)
  | 0 => ⟨Int.le_refl _, Int.le_refl _⟩
  | i + 1 => by
    have h1 := zcl_b (l := l) (c := c) i
    rw [zcl]
    split <;> omega
theorem x_count {d : Nat} {σ : zM} {K : zM → Option zV → Prop} {C : Nat} {law least draw : Int} {l : List Int} {p : Nat → Int} (hg : zgd C law least draw l p) (hx : zXn σ C law least draw l p) {what : Int} (q1 : ¬ (0 ≤ what ∧ what ≤ 5) → K σ (some (vI (-1)))) (q2 : what = 0 → K σ (some (vI l.length))) (q3 : what = 1 → K σ (some (vI (zcp p l l.length)))) (q4 : 2 ≤ what → what ≤ 5 → K σ (some (vI (zcl l (what - 2) l.length)))) : zC (d + 1 + 1) 37 [vR (0), vI (what)] σ K := by
  have hl := hg.2.2.1
  refine zC_in rfl ?_
  have lp1 : ∀ (n : Nat) (i : Nat), l.length - i = n → i ≤ l.length → what = 1 → zG (d + 1) 37 K 0 zfx (31, [vR (0), vI (what), vI ((zcp p l i)), vI ((i : Int)), vU], [], σ) := by
    intro n
    induction n using Nat.strongRecOn with
    | _ n ih =>
    intro i hn g1 hw
    have hb := zcp_b (p := p) hg.2.2.2.2 (zgd_c hg) i g1
    refine r_iload k_37_31 rfl ?_
    refine r_aload k_37_32 rfl ?_
    refine r_getR (q := 1) k_37_33 ⟨rfl, rfl⟩ ?_
    refine r_getR (q := 2) k_37_36 ⟨rfl, rfl⟩ ?_
    refine r_getS (v := (l.length : Int)) k_37_39 ⟨rfl, rfl⟩ hx.2.1.1 ?_
    refine r_ic_ge k_37_42 (fun h42 => ?_) (fun h42 => ?_)
    · skip
      refine r_iload k_37_98 rfl ?_
      refine r_iret k_37_99 ?_
      have e : i = l.length := by omega
      subst e
      exact q3 (by omega)
    · skip
      refine r_aload k_37_45 rfl ?_
      refine r_getR (q := 1) k_37_46 ⟨rfl, rfl⟩ ?_
      refine r_getR (q := 2) k_37_49 ⟨rfl, rfl⟩ ?_
      refine r_iload k_37_52 rfl ?_
      refine r_call (as := [vR (2), vI ((i : Int))]) (r := []) k_37_53 rfl rfl rfl ?_
      refine v_at (r := 0) (l := l) (k := i) (by decide) hx.2.1 (by omega) (by omega) (by omega) ?_
      refine r_istore (L' := [vR (0), vI (what), vI ((zcp p l i)), vI ((i : Int)), vI ((zlf l i))]) k_37_56 rfl ?_
      refine r_iload k_37_58 rfl ?_
      refine r_const k_37_59 ?_
      refine r_ic_ne k_37_60 (fun hz => absurd hz (by omega)) (fun _ => ?_)
      refine r_iload k_37_63 rfl ?_
      refine r_aload k_37_64 rfl ?_
      refine r_getR (q := 1) k_37_65 ⟨rfl, rfl⟩ ?_
      refine r_getR (q := 4) k_37_68 ⟨rfl, rfl⟩ ?_
      refine r_iload k_37_71 rfl ?_
      refine r_call (as := [vR (4), vI ((zlf l i))]) (r := [vI ((zcp p l i))]) k_37_73 rfl rfl rfl ?_
      have hcl := zcol_k (zgd_c hg) (k := i) (by omega)
      have hpb := hg.2.2.2.2 (zlf l i).toNat (by omega)
      refine s_priceOf (fun _ _ => ?_) (fun q => by omega)
      rw [hx.2.2.1 (zlf l i).toNat (by omega)]
      refine r_bin (v := (zcp p l i) + ((p (zlf l i).toNat))) k_37_76 (zb_add ⟨by omega, by omega⟩) ?_
      refine r_istore (L' := [vR (0), vI (what), vI ((zcp p l i) + ((p (zlf l i).toNat))), vI ((i : Int)), vI ((zlf l i))]) k_37_77 rfl ?_
      refine r_goto k_37_78 ?_
      refine r_iinc (v := (i : Int) + 1) (L' := [vR (0), vI (what), vI ((zcp p l i) + ((p (zlf l i).toNat))), vI ((i : Int) + 1), vI ((zlf l i))]) k_37_92 rfl (zb_add ⟨by omega, by omega⟩) rfl ?_
      refine r_goto k_37_95 ?_
      refine r_cut (L' := [vR (0), vI (what), vI ((zcp p l i) + ((p (zlf l i).toNat))), vI ((i : Int) + 1), vU]) 4 rfl ?_
      have e : zcp p l (i + 1) = (zcp p l i) + ((p (zlf l i).toNat)) := by rw [zcp]; skip
      rw [← e]
      exact ih _ (by omega) (i + 1) rfl (by omega) hw
  have lp2 : ∀ (n : Nat) (i : Nat), l.length - i = n → i ≤ l.length → 2 ≤ what ∧ what ≤ 5 → zG (d + 1) 37 K 0 zfx (31, [vR (0), vI (what), vI ((zcl l (what - 2) i)), vI ((i : Int)), vU], [], σ) := by
    intro n
    induction n using Nat.strongRecOn with
    | _ n ih =>
    intro i hn g1 hw
    have hb := zcl_b (l := l) (c := what - 2) i
    refine r_iload k_37_31 rfl ?_
    refine r_aload k_37_32 rfl ?_
    refine r_getR (q := 1) k_37_33 ⟨rfl, rfl⟩ ?_
    refine r_getR (q := 2) k_37_36 ⟨rfl, rfl⟩ ?_
    refine r_getS (v := (l.length : Int)) k_37_39 ⟨rfl, rfl⟩ hx.2.1.1 ?_
    refine r_ic_ge k_37_42 (fun h42 => ?_) (fun h42 => ?_)
    · skip
      refine r_iload k_37_98 rfl ?_
      refine r_iret k_37_99 ?_
      have e : i = l.length := by omega
      subst e
      exact q4 (by omega) (by omega)
    · skip
      refine r_aload k_37_45 rfl ?_
      refine r_getR (q := 1) k_37_46 ⟨rfl, rfl⟩ ?_
      refine r_getR (q := 2) k_37_49 ⟨rfl, rfl⟩ ?_
      refine r_iload k_37_52 rfl ?_
      refine r_call (as := [vR (2), vI ((i : Int))]) (r := []) k_37_53 rfl rfl rfl ?_
      refine v_at (r := 0) (l := l) (k := i) (by decide) hx.2.1 (by omega) (by omega) (by omega) ?_
      refine r_istore (L' := [vR (0), vI (what), vI ((zcl l (what - 2) i)), vI ((i : Int)), vI ((zlf l i))]) k_37_56 rfl ?_
      refine r_iload k_37_58 rfl ?_
      refine r_const k_37_59 ?_
      refine r_ic_ne k_37_60 (fun _ => ?_) (fun hz => absurd hz (by omega))
      refine r_iload k_37_81 rfl ?_
      refine r_iload k_37_83 rfl ?_
      refine r_const k_37_84 ?_
      refine r_bin (v := what - 2) k_37_85 (zb_sub ⟨by omega, by omega⟩) ?_
      refine r_ic_ne k_37_86 (fun h86 => ?_) (fun h86 => ?_)
      · skip
        refine r_iinc (v := (i : Int) + 1) (L' := [vR (0), vI (what), vI ((zcl l (what - 2) i)), vI ((i : Int) + 1), vI ((zlf l i))]) k_37_92 rfl (zb_add ⟨by omega, by omega⟩) rfl ?_
        refine r_goto k_37_95 ?_
        refine r_cut (L' := [vR (0), vI (what), vI ((zcl l (what - 2) i)), vI ((i : Int) + 1), vU]) 4 rfl ?_
        have e : zcl l (what - 2) (i + 1) = (zcl l (what - 2) i) := by rw [zcl]; split <;> omega
        rw [← e]
        exact ih _ (by omega) (i + 1) rfl (by omega) hw
      · skip
        refine r_iinc (v := (zcl l (what - 2) i) + 1) (L' := [vR (0), vI (what), vI ((zcl l (what - 2) i) + 1), vI ((i : Int)), vI ((zlf l i))]) k_37_89 rfl (zb_add ⟨by omega, by omega⟩) rfl ?_
        refine r_iinc (v := (i : Int) + 1) (L' := [vR (0), vI (what), vI ((zcl l (what - 2) i) + 1), vI ((i : Int) + 1), vI ((zlf l i))]) k_37_92 rfl (zb_add ⟨by omega, by omega⟩) rfl ?_
        refine r_goto k_37_95 ?_
        refine r_cut (L' := [vR (0), vI (what), vI ((zcl l (what - 2) i) + 1), vI ((i : Int) + 1), vU]) 4 rfl ?_
        have e : zcl l (what - 2) (i + 1) = (zcl l (what - 2) i) + 1 := by rw [zcl]; split <;> omega
        rw [← e]
        exact ih _ (by omega) (i + 1) rfl (by omega) hw
  show zG (d + 1) 37 K 0 zfx (0, [vR (0), vI (what), vU, vU, vU], [], σ)
  refine r_iload k_37_0 rfl ?_
  refine r_if_lt k_37_1 (fun h1 => ?_) (fun h1 => ?_)
  · skip
    refine r_const k_37_10 ?_
    refine r_iret k_37_11 ?_
    exact q1 (by omega)
  · skip
    refine r_iload k_37_4 rfl ?_
    refine r_const k_37_5 ?_
    refine r_ic_lt k_37_7 (fun h7 => ?_) (fun h7 => ?_)
    · skip
      refine r_iload k_37_12 rfl ?_
      refine r_if_ne k_37_13 (fun h13 => ?_) (fun h13 => ?_)
      · skip
        refine r_const k_37_27 ?_
        refine r_istore (L' := [vR (0), vI (what), vI (0), vU, vU]) k_37_28 rfl ?_
        refine r_const k_37_29 ?_
        refine r_istore (L' := [vR (0), vI (what), vI (0), vI (0), vU]) k_37_30 rfl ?_
        by_cases hw : what = 1
        · exact lp1 _ 0 rfl (by omega) hw
        · exact lp2 _ 0 rfl (by omega) ⟨by omega, by omega⟩
      · skip
        refine r_aload k_37_16 rfl ?_
        refine r_getR (q := 1) k_37_17 ⟨rfl, rfl⟩ ?_
        refine r_getR (q := 2) k_37_20 ⟨rfl, rfl⟩ ?_
        refine r_getS (v := (l.length : Int)) k_37_23 ⟨rfl, rfl⟩ hx.2.1.1 ?_
        refine r_iret k_37_26 ?_
        exact q2 (by omega)
    · skip
      refine r_const k_37_10 ?_
      refine r_iret k_37_11 ?_
      exact q1 (by omega)
theorem y_count {d : Nat} {σ : zM} {K : zM → Option zV → Prop} {C : Nat} {law least draw : Int} {l : List Int} {p : Nat → Int} (hg : zgd C law least draw l p) (hy : zYn (σ.2 12) C law least draw l p) {what : Int} (q1 : ¬ (0 ≤ what ∧ what ≤ 5) → K σ (some (vI (-1)))) (q2 : what = 0 → K σ (some (vI l.length))) (q3 : what = 1 → K σ (some (vI (zcp p l l.length)))) (q4 : 2 ≤ what → what ≤ 5 → K σ (some (vI (zcl l (what - 2) l.length)))) : zC (d + 1 + 1) 96 [vR (27), vI (what)] σ K := by
  have hl := hg.2.2.1
  refine zC_in rfl ?_
  have lp : ∀ (n : Nat) (i : Nat), l.length - i = n → i ≤ l.length → 0 ≤ what → what ≤ 5 → zG (d + 1) 96 K 0 zfx (21, [vR (27), vI (what), vI ((zcp p l i)), vI ((zcl l (what - 2) i)), vI ((i : Int))], [], σ) := by
    intro n
    induction n using Nat.strongRecOn with
    | _ n ih =>
    intro i hn g1 hw0 hw5
    have hb := zcp_b (p := p) hg.2.2.2.2 (zgd_c hg) i g1
    have hb2 := zcl_b (l := l) (c := what - 2) i
    refine r_iload k_96_21 rfl ?_
    refine r_aload k_96_23 rfl ?_
    refine r_getR (q := 28) k_96_24 ⟨rfl, rfl⟩ ?_
    refine r_const k_96_27 ?_
    refine r_iald (v := (l.length : Int)) k_96_28 ⟨rfl, rfl⟩ ⟨by decide, by decide⟩ hy.2.2.2.2.1 ?_
    refine r_ic_ge k_96_29 (fun h29 => ?_) (fun h29 => ?_)
    · skip
      refine r_iload k_96_82 rfl ?_
      refine r_if_ne k_96_83 (fun h83 => ?_) (fun h83 => ?_)
      · skip
        refine r_iload k_96_95 rfl ?_
        refine r_const k_96_96 ?_
        refine r_ic_ne k_96_97 (fun h97 => ?_) (fun h97 => ?_)
        · skip
          refine r_iload k_96_104 rfl ?_
          refine r_iret k_96_105 ?_
          have e : i = l.length := by omega
          subst e
          exact q4 (by omega) (by omega)
        · skip
          refine r_iload k_96_100 rfl ?_
          refine r_goto k_96_101 ?_
          refine r_iret k_96_105 ?_
          have e : i = l.length := by omega
          subst e
          exact q3 (by omega)
      · skip
        refine r_aload k_96_86 rfl ?_
        refine r_getR (q := 28) k_96_87 ⟨rfl, rfl⟩ ?_
        refine r_const k_96_90 ?_
        refine r_iald (v := (l.length : Int)) k_96_91 ⟨rfl, rfl⟩ ⟨by decide, by decide⟩ hy.2.2.2.2.1 ?_
        refine r_goto k_96_92 ?_
        refine r_iret k_96_105 ?_
        exact q2 (by omega)
    · skip
      refine r_iload k_96_32 rfl ?_
      refine r_aload k_96_33 rfl ?_
      refine r_getR (q := 28) k_96_34 ⟨rfl, rfl⟩ ?_
      refine r_const k_96_37 ?_
      refine r_aload k_96_38 rfl ?_
      refine r_getR (q := 28) k_96_39 ⟨rfl, rfl⟩ ?_
      refine r_const k_96_42 ?_
      refine r_iload k_96_44 rfl ?_
      refine r_bin (v := 9 + ((i : Int))) k_96_46 (zb_add ⟨by omega, by omega⟩) ?_
      refine r_iald (v := (zlf l i)) k_96_47 ⟨rfl, rfl⟩ ⟨by omega, by omega⟩ (by rw [show (9 + ((i : Int)) : Int).toNat = 9 + i by omega]; exact hy.2.2.2.2.2.2 _ (by omega)) ?_
      refine r_bin (v := 5 + (zlf l i)) k_96_48 (zb_add ⟨by have := zcol_k (zgd_c hg) (k := i) (by omega); omega, by have := zcol_k (zgd_c hg) (k := i) (by omega); omega⟩) ?_
      refine r_iald (v := (p (zlf l i).toNat)) k_96_49 ⟨rfl, rfl⟩ ⟨by have := zcol_k (zgd_c hg) (k := i) (by omega); omega, by have := zcol_k (zgd_c hg) (k := i) (by omega); omega⟩ (by have := zcol_k (zgd_c hg) (k := i) (by omega); rw [show (5 + (zlf l i) : Int).toNat = 5 + (zlf l i).toNat by omega]; exact hy.2.2.2.2.2.1 _ (by omega)) ?_
      refine r_bin (v := (zcp p l i) + (p (zlf l i).toNat)) k_96_50 (zb_add ⟨by have h1 := zcol_k (zgd_c hg) (k := i) (by omega); have := hg.2.2.2.2 (zlf l i).toNat (by omega); omega, by have h1 := zcol_k (zgd_c hg) (k := i) (by omega); have := hg.2.2.2.2 (zlf l i).toNat (by omega); omega⟩) ?_
      refine r_istore (L' := [vR (27), vI (what), vI ((zcp p l i) + (p (zlf l i).toNat)), vI ((zcl l (what - 2) i)), vI ((i : Int))]) k_96_51 rfl ?_
      refine r_iload k_96_52 rfl ?_
      refine r_aload k_96_53 rfl ?_
      refine r_getR (q := 28) k_96_54 ⟨rfl, rfl⟩ ?_
      refine r_const k_96_57 ?_
      refine r_iload k_96_59 rfl ?_
      refine r_bin (v := 9 + ((i : Int))) k_96_61 (zb_add ⟨by omega, by omega⟩) ?_
      refine r_iald (v := (zlf l i)) k_96_62 ⟨rfl, rfl⟩ ⟨by omega, by omega⟩ (by rw [show (9 + ((i : Int)) : Int).toNat = 9 + i by omega]; exact hy.2.2.2.2.2.2 _ (by omega)) ?_
      refine r_iload k_96_63 rfl ?_
      refine r_const k_96_64 ?_
      refine r_bin (v := what - 2) k_96_65 (zb_sub ⟨by omega, by omega⟩) ?_
      refine r_ic_ne k_96_66 (fun h66 => ?_) (fun h66 => ?_)
      · skip
        refine r_const k_96_73 ?_
        refine r_bin (v := (zcl l (what - 2) i) + 0) k_96_74 (zb_add ⟨by omega, by omega⟩) ?_
        refine r_istore (L' := [vR (27), vI (what), vI ((zcp p l i) + (p (zlf l i).toNat)), vI ((zcl l (what - 2) i) + 0), vI ((i : Int))]) k_96_75 rfl ?_
        refine r_iinc (v := (i : Int) + 1) (L' := [vR (27), vI (what), vI ((zcp p l i) + (p (zlf l i).toNat)), vI ((zcl l (what - 2) i) + 0), vI ((i : Int) + 1)]) k_96_76 rfl (zb_add ⟨by omega, by omega⟩) rfl ?_
        refine r_goto k_96_79 ?_
        have e : zcp p l (i + 1) = (zcp p l i) + (p (zlf l i).toNat) := by rw [zcp]
        have e2 : zcl l (what - 2) (i + 1) = (zcl l (what - 2) i) + 0 := by rw [zcl]; split <;> omega
        rw [← e, ← e2]
        exact ih _ (by omega) (i + 1) rfl (by omega) hw0 hw5
      · skip
        refine r_const k_96_69 ?_
        refine r_goto k_96_70 ?_
        refine r_bin (v := (zcl l (what - 2) i) + 1) k_96_74 (zb_add ⟨by omega, by omega⟩) ?_
        refine r_istore (L' := [vR (27), vI (what), vI ((zcp p l i) + (p (zlf l i).toNat)), vI ((zcl l (what - 2) i) + 1), vI ((i : Int))]) k_96_75 rfl ?_
        refine r_iinc (v := (i : Int) + 1) (L' := [vR (27), vI (what), vI ((zcp p l i) + (p (zlf l i).toNat)), vI ((zcl l (what - 2) i) + 1), vI ((i : Int) + 1)]) k_96_76 rfl (zb_add ⟨by omega, by omega⟩) rfl ?_
        refine r_goto k_96_79 ?_
        have e : zcp p l (i + 1) = (zcp p l i) + (p (zlf l i).toNat) := by rw [zcp]
        have e2 : zcl l (what - 2) (i + 1) = (zcl l (what - 2) i) + 1 := by rw [zcl]; split <;> omega
        rw [← e, ← e2]
        exact ih _ (by omega) (i + 1) rfl (by omega) hw0 hw5
  show zG (d + 1) 96 K 0 zfx (0, [vR (27), vI (what), vU, vU, vU], [], σ)
  refine r_iload k_96_0 rfl ?_
  refine r_cnv (w := vL (what)) k_96_1 rfl ?_
  refine r_lconst k_96_2 ?_
  refine r_lconst k_96_3 ?_
  refine r_call (as := [vL (what), vL (0), vL (5)]) (r := []) k_96_6 rfl rfl rfl ?_
  refine t_in (fun g6 => ?_) (fun g6 => ?_)
  · skip
    refine r_if_ne k_96_9 (fun _ => ?_) (fun hz => absurd hz (by decide))
    refine r_const k_96_14 ?_
    refine r_istore (L' := [vR (27), vI (what), vI (0), vU, vU]) k_96_15 rfl ?_
    refine r_const k_96_16 ?_
    refine r_istore (L' := [vR (27), vI (what), vI (0), vI (0), vU]) k_96_17 rfl ?_
    refine r_const k_96_18 ?_
    refine r_istore (L' := [vR (27), vI (what), vI (0), vI (0), vI (0)]) k_96_19 rfl ?_
    exact lp _ 0 rfl (by omega) (by omega) (by omega)
  · skip
    refine r_if_ne k_96_9 (fun hz => absurd hz (by decide)) (fun _ => ?_)
    refine r_const k_96_12 ?_
    refine r_iret k_96_13 ?_
    exact q1 (by omega)
theorem p_count {d : Nat} {σ : zM} (h : zInv σ) {what : Int} : zC (d + 41) 37 [vR 0, vI what] σ (fun σ1 r1 => zC (d + 5) 96 [vR 27, vI what] σ1 (zpq σ1 r1)) := by
  obtain ⟨C, law, least, draw, l, p, hg, hx, hy⟩ := h.1
  refine x_count (d := d + 39) hg hx (fun q => ?_) (fun q => ?_) (fun q => ?_) (fun q q' => ?_)
  · exact y_count (d := d + 3) hg hy (fun _ => ⟨⟨_, rfl, rfl⟩, h⟩) (fun e => absurd ⟨by omega, by omega⟩ q) (fun e => absurd ⟨by omega, by omega⟩ q) (fun e e' => absurd ⟨by omega, by omega⟩ q)
  · exact y_count (d := d + 3) hg hy (fun e => absurd ⟨by omega, by omega⟩ e) (fun _ => ⟨⟨_, rfl, rfl⟩, h⟩) (fun e => absurd e (by omega)) (fun e e' => absurd e (by omega))
  · exact y_count (d := d + 3) hg hy (fun e => absurd ⟨by omega, by omega⟩ e) (fun e => absurd e (by omega)) (fun _ => ⟨⟨_, rfl, rfl⟩, h⟩) (fun e e' => absurd e (by omega))
  · exact y_count (d := d + 3) hg hy (fun e => absurd ⟨by omega, by omega⟩ e) (fun e => absurd e (by omega)) (fun e => absurd e (by omega)) (fun _ _ => ⟨⟨_, rfl, rfl⟩, h⟩)
