/-! rings -/
def zring (law least : Int) (l : List Int) : Prop := ∀ i, i < l.length → zends law least (zsh (zlf (l ++ l)) i) l.length = 0
theorem ztk_s {l : List Int} {i : Nat} (h : i < l.length) : l.take i ++ [zlf l i] = l.take (i + 1) := by
  refine zlf_ext (by rw [List.length_append, List.length_take, List.length_take]; simp; omega) fun k hk => ?_
  have hlt : (l.take i).length = i := by rw [List.length_take]; omega
  rw [List.length_append, hlt] at hk
  simp at hk
  by_cases hki : k < i
  · rw [zlf_l (by omega), zlf_t hki, zlf_t (by omega)]
  · have e : k = i := by omega
    subst e
    rw [zlf_t (by omega)]
    have := zlf_e (l := l.take k) (c := zlf l k)
    rw [hlt] at this
    exact this
theorem ztk_a {l : List Int} {i : Nat} (h : i < l.length) : l ++ l.take i ++ [zlf l i] = l ++ l.take (i + 1) := by rw [List.append_assoc, ztk_s h]
theorem ztk_n {l : List Int} {i : Nat} (h : i ≤ l.length) : (l ++ l.take i).length = l.length + i := by rw [List.length_append, List.length_take]; omega
theorem zcol_ap {l m : List Int} (h : zcol l) (h2 : zcol m) : zcol (l ++ m) := fun x hx => (List.mem_append.mp hx).elim (h x) (h2 x)
theorem v_isRing {d : Nat} {σ : zM} {K : zM → Option zV → Prop} {C law least : Int} {l : List Int} (hb : zbd C law least) (hw : zrl σ C law least) (hz : zis σ 2 l) (hc : zcol l) (hl : l.length ≤ 36) (q1 : ∀ τ, zfr [2] [2] σ τ → zis τ 2 l → zring law least l → K τ (some (vI 1))) (q2 : ∀ τ, zfr [2] [2] σ τ → zis τ 2 l → ¬ zring law least l → K τ (some (vI 0))) : zC (d + 4) 16 [vR 4, vR 22] σ K := by
  have F0 : zfr [2] [2] σ σ := zfr_rf
  have hll : (l ++ l).length = l.length + l.length := List.length_append
  have hcc := zcol_ap hc hc
  refine zC_in rfl ?_
  have lp1 : ∀ (n : Nat) (to : Int) (τ : zM), -100 ≤ to → to ≤ 100 → zrl τ C law least → zis τ 2 (l ++ l) → zfr [2] [2] σ τ → ¬ zring law least l → zG (d + 3) 16 K 0 zfx (32, [vR (4), vR (22), vI ((l.length : Int)), vI (0), vI (to)], [], τ) := by
    intro n
    induction n using Nat.strongRecOn with
    | _ n ih =>
    intro to τ ht1 ht2 W1 hz1 F1 hq
    refine r_iload k_16_32 rfl ?_
    refine r_const k_16_34 ?_
    refine r_iload k_16_35 rfl ?_
    refine r_bin (v := 2 * (l.length : Int)) k_16_36 (zb_mul ⟨by omega, by omega⟩) ?_
    refine r_ic_ge k_16_37 (fun h37 => ?_) (fun h37 => ?_)
    · skip
      refine r_aload k_16_70 rfl ?_
      refine r_iload k_16_71 rfl ?_
      refine r_call (as := [vR (22), vI ((l.length : Int))]) (r := []) k_16_72 rfl rfl rfl ?_
      refine s_cutl (r := 2) (l := l) (m := l) (by decide) hz1 (by omega) rfl (fun τ1 f1 z1 => ?_)
      replace f1 := zfr_w (S' := [2]) (A' := [2]) f1 (by decide) (by decide)
      have F1 := zfr_2 F1 f1 (by decide) (by decide)
      have W1 := zrl_fr W1 f1 (by decide)
      refine r_iload k_16_75 rfl ?_
      refine r_zret k_16_76 (by omega) ?_
      exact q2 _ F1 z1 hq
    · skip
      refine r_iload k_16_40 rfl ?_
      refine r_if_eq k_16_41 (fun _ => ?_) (fun hz => absurd hz (by decide))
      refine r_aload k_16_70 rfl ?_
      refine r_iload k_16_71 rfl ?_
      refine r_call (as := [vR (22), vI ((l.length : Int))]) (r := []) k_16_72 rfl rfl rfl ?_
      refine s_cutl (r := 2) (l := l) (m := l) (by decide) hz1 (by omega) rfl (fun τ2 f2 z2 => ?_)
      replace f2 := zfr_w (S' := [2]) (A' := [2]) f2 (by decide) (by decide)
      have F2 := zfr_2 F1 f2 (by decide) (by decide)
      have W2 := zrl_fr W1 f2 (by decide)
      refine r_iload k_16_75 rfl ?_
      refine r_zret k_16_76 (by omega) ?_
      exact q2 _ F2 z2 hq
  have lp2 : ∀ (n : Nat) (j : Nat) (τ : zM), l.length - j = n → j ≤ l.length → zrl τ C law least → zis τ 2 (l ++ l) → zfr [2] [2] σ τ → (∀ i, i < j → zends law least (zsh (zlf (l ++ l)) i) l.length = 0) → zG (d + 3) 16 K 0 zfx (32, [vR (4), vR (22), vI ((l.length : Int)), vI (1), vI (((l.length + j : Nat) : Int))], [], τ) := by
    intro n
    induction n using Nat.strongRecOn with
    | _ n ih =>
    intro j τ hn hjl W1 hz1 F1 hj
    refine r_iload k_16_32 rfl ?_
    refine r_const k_16_34 ?_
    refine r_iload k_16_35 rfl ?_
    refine r_bin (v := 2 * (l.length : Int)) k_16_36 (zb_mul ⟨by omega, by omega⟩) ?_
    refine r_ic_ge k_16_37 (fun h37 => ?_) (fun h37 => ?_)
    · skip
      refine r_aload k_16_70 rfl ?_
      refine r_iload k_16_71 rfl ?_
      refine r_call (as := [vR (22), vI ((l.length : Int))]) (r := []) k_16_72 rfl rfl rfl ?_
      refine s_cutl (r := 2) (l := l) (m := l) (by decide) hz1 (by omega) rfl (fun τ3 f3 z3 => ?_)
      replace f3 := zfr_w (S' := [2]) (A' := [2]) f3 (by decide) (by decide)
      have F3 := zfr_2 F1 f3 (by decide) (by decide)
      have W3 := zrl_fr W1 f3 (by decide)
      refine r_iload k_16_75 rfl ?_
      refine r_zret k_16_76 (by omega) ?_
      exact q1 _ F3 z3 (fun i hi => hj i (by omega))
    · skip
      refine r_iload k_16_40 rfl ?_
      refine r_if_eq k_16_41 (fun hz => absurd hz (by decide)) (fun _ => ?_)
      refine r_aload k_16_44 rfl ?_
      refine r_aload k_16_45 rfl ?_
      refine r_iload k_16_46 rfl ?_
      refine r_iload k_16_48 rfl ?_
      refine r_bin (v := (j : Int)) k_16_49 (by rw [zb_sub ⟨by omega, by omega⟩]; omega) ?_
      refine r_iload k_16_50 rfl ?_
      refine r_call (as := [vR (4), vR (22), vI ((j : Int)), vI (((l.length + j : Nat) : Int))]) (r := []) k_16_52 rfl rfl rfl ?_
      refine v_endw (r := 2) (l := l ++ l) (fr := j) (to := l.length + j) (by decide) hb W1 hz1 hcc (by omega) (by omega) (by omega) ?_
      rw [Nat.add_sub_cancel]
      refine r_if_ne k_16_55 (fun h55 => ?_) (fun h55 => ?_)
      · skip
        refine r_const k_16_62 ?_
        refine r_istore (L' := [vR (4), vR (22), vI ((l.length : Int)), vI (0), vI (((l.length + j : Nat) : Int))]) k_16_63 rfl ?_
        refine r_iinc (v := ((l.length + j : Nat) : Int) + 1) (L' := [vR (4), vR (22), vI ((l.length : Int)), vI (0), vI (((l.length + j : Nat) : Int) + 1)]) k_16_64 rfl (zb_add ⟨by omega, by omega⟩) rfl ?_
        refine r_goto k_16_67 ?_
        exact lp1 0 _ _ (by omega) (by omega) W1 hz1 F1 (fun q => by have := q j (by omega); omega)
      · skip
        refine r_const k_16_58 ?_
        refine r_goto k_16_59 ?_
        refine r_istore (L' := [vR (4), vR (22), vI ((l.length : Int)), vI (1), vI (((l.length + j : Nat) : Int))]) k_16_63 rfl ?_
        refine r_iinc (v := ((l.length + j : Nat) : Int) + 1) (L' := [vR (4), vR (22), vI ((l.length : Int)), vI (1), vI (((l.length + j : Nat) : Int) + 1)]) k_16_64 rfl (zb_add ⟨by omega, by omega⟩) rfl ?_
        refine r_goto k_16_67 ?_
        exact ih _ (by omega) (j + 1) _ rfl (by omega) W1 hz1 F1 (fun i hi => by
          by_cases hij : i = j
          · subst hij; omega
          · exact hj i (by omega))
  have lp3 : ∀ (n : Nat) (i : Nat) (τ : zM), l.length - i = n → i ≤ l.length → zrl τ C law least → zis τ 2 (l ++ l.take i) → zfr [2] [2] σ τ → zG (d + 3) 16 K 0 zfx (7, [vR (4), vR (22), vI ((l.length : Int)), vI ((i : Int)), vU], [], τ) := by
    intro n
    induction n using Nat.strongRecOn with
    | _ n ih =>
    intro i τ hn hil W1 hz1 F1
    have hln := ztk_n hil
    refine r_iload k_16_7 rfl ?_
    refine r_iload k_16_8 rfl ?_
    refine r_ic_ge k_16_9 (fun h9 => ?_) (fun h9 => ?_)
    · skip
      refine r_const k_16_27 ?_
      refine r_istore (L' := [vR (4), vR (22), vI ((l.length : Int)), vI (1), vU]) k_16_28 rfl ?_
      refine r_iload k_16_29 rfl ?_
      refine r_istore (L' := [vR (4), vR (22), vI ((l.length : Int)), vI (1), vI ((l.length : Int))]) k_16_30 rfl ?_
      exact lp2 _ 0 _ rfl (by omega) W1 (by rw [show i = l.length by omega, List.take_length] at hz1; exact hz1) F1 (fun i hi => by omega)
    · skip
      refine r_aload k_16_12 rfl ?_
      refine r_aload k_16_13 rfl ?_
      refine r_iload k_16_14 rfl ?_
      refine r_call (as := [vR (22), vI ((i : Int))]) (r := [vR (22)]) k_16_15 rfl rfl rfl ?_
      refine v_at (r := 2) (l := l ++ l.take i) (k := i) (by decide) hz1 (by omega) rfl (by omega) ?_
      rw [zlf_l (by omega)]
      refine r_call (as := [vR (22), vI ((zlf l i))]) (r := []) k_16_18 rfl rfl rfl ?_
      refine v_add (r := 2) (l := l ++ l.take i) (c := zlf l i) (by decide) hz1 (by omega) (fun τ4 f4 z4 => ?_)
      rw [ztk_a (by omega)] at z4
      have F4 := zfr_2 F1 f4 (by decide) (by decide)
      have W4 := zrl_fr W1 f4 (by decide)
      refine r_iinc (v := (i : Int) + 1) (L' := [vR (4), vR (22), vI ((l.length : Int)), vI ((i : Int) + 1), vU]) k_16_21 rfl (zb_add ⟨by omega, by omega⟩) rfl ?_
      refine r_goto k_16_24 ?_
      exact ih _ (by omega) (i + 1) _ rfl (by omega) W4 z4 F4
  show zG (d + 3) 16 K 0 zfx (0, [vR (4), vR (22), vU, vU, vU], [], σ)
  refine r_aload k_16_0 rfl ?_
  refine r_getS (v := (l.length : Int)) k_16_1 ⟨rfl, rfl⟩ hz.1 ?_
  refine r_istore (L' := [vR (4), vR (22), vI ((l.length : Int)), vU, vU]) k_16_4 rfl ?_
  refine r_const k_16_5 ?_
  refine r_istore (L' := [vR (4), vR (22), vI ((l.length : Int)), vI (0), vU]) k_16_6 rfl ?_
  exact lp3 _ 0 _ rfl (by omega) hw (by rw [List.take_zero, List.append_nil]; exact hz) F0
