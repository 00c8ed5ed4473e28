/-! fence: the two alike -/
def zco (b : Int) : Int := if b = 114 then 0 else if b = 119 then 1 else if b = 98 then 2 else if b = 103 then 3 else -1
theorem zco_b (b : Int) : -1 ≤ zco b ∧ zco b ≤ 3 := by unfold zco; (repeat' split) <;> omega
theorem zc2b : ∀ b : Fin 128, ((Int32.ofInt (b.val : Int)).toUInt32 % 65536).toInt32.toInt = (b.val : Int) := by decide +kernel
theorem zi2b : ∀ b : Fin 128, (Int32.ofInt (b.val : Int)).toInt8.toInt32.toInt = (b.val : Int) := by decide +kernel
theorem zc2 {b : Int} (h0 : 0 ≤ b) (h : b < 128) : ((Int32.ofInt b).toUInt32 % 65536).toInt32.toInt = b := by
  have := zc2b ⟨b.toNat, by omega⟩
  rw [show ((b.toNat : Nat) : Int) = b by omega] at this
  exact this
theorem zi2 {b : Int} (h0 : 0 ≤ b) (h : b < 128) : (Int32.ofInt b).toInt8.toInt32.toInt = b := by
  have := zi2b ⟨b.toNat, by omega⟩
  rw [show ((b.toNat : Nat) : Int) = b by omega] at this
  exact this
def zrt (C : Nat) (t : Nat → Int) : Nat → Nat → List Int → Int × List Int
  | 0, _, a => ((a.length : Int), a)
  | m + 1, i, a => if t i = 32 then zrt C t m (i + 1) a else if (0 ≤ zco (t i) ∧ zco (t i) < (C : Int)) ∧ a.length < 48 then zrt C t m (i + 1) (a ++ [zco (t i)]) else (-20 - (i : Int), a)
theorem zrt_c {C : Nat} {t u : Nat → Int} : ∀ (m i : Nat) (a : List Int), (∀ j, i ≤ j → j < i + m → t j = u j) → zrt C t m i a = zrt C u m i a
  | 0, _, _, _ => rfl
  | m + 1, i, a, h => by
    rw [zrt, zrt, h i (Nat.le_refl _) (by omega), zrt_c m (i + 1) a (fun j h1 h2 => h j (by omega) (by omega)), zrt_c m (i + 1) _ (fun j h1 h2 => h j (by omega) (by omega))]
theorem zrt_ok {C : Nat} {t : Nat → Int} : ∀ (m i : Nat) (a : List Int), a.length ≤ 48 → (∀ x ∈ a, 0 ≤ x ∧ x < (C : Int)) → 0 ≤ (zrt C t m i a).1 → (zrt C t m i a).1 = ((zrt C t m i a).2.length : Int) ∧ (zrt C t m i a).2.length ≤ 48 ∧ ∀ x ∈ (zrt C t m i a).2, 0 ≤ x ∧ x < (C : Int)
  | 0, _, a, h, ha, _ => ⟨rfl, h, ha⟩
  | m + 1, i, a, h, ha, h0 => by
    rw [zrt] at h0 ⊢
    by_cases c : t i = 32
    · rw [if_pos c] at h0 ⊢; exact zrt_ok m (i + 1) a h ha h0
    · rw [if_neg c] at h0 ⊢
      by_cases c2 : (0 ≤ zco (t i) ∧ zco (t i) < (C : Int)) ∧ a.length < 48
      · rw [if_pos c2] at h0 ⊢
        exact zrt_ok m (i + 1) _ (by rw [zlen1]; omega) (fun x hx => by
          rcases List.mem_append.mp hx with q | q
          · exact ha x q
          · rw [List.mem_singleton.mp q]; exact c2.1) h0
      · rw [if_neg c2] at h0
        exact absurd h0 (by show ¬ 0 ≤ -20 - (i : Int); omega)
theorem zrt_len {C : Nat} {t : Nat → Int} : ∀ (m i : Nat) (a : List Int), a.length ≤ 48 → (zrt C t m i a).2.length ≤ 48
  | 0, _, a, h => h
  | m + 1, i, a, h => by
    rw [zrt]
    split
    · exact zrt_len m (i + 1) a h
    · split
      · exact zrt_len m (i + 1) _ (by rw [zlen1]; omega)
      · exact h
theorem j_coder {d : Nat} {σ : zM} {K : zM → Option zV → Prop} (q1 : K σ (some (vI 0))) : zC (d + 1) 132 [vR (41)] σ K := by
  refine zC_in rfl ?_
  show zG (d) 132 K 0 zfx (0, [vR (41)], [], σ)
  refine r_cs k_132_0 ?_
  refine r_if_eq k_132_3 (fun hz => absurd hz (by decide)) (fun _ => ?_)
  refine r_aload k_132_6 rfl ?_
  refine r_scod k_132_7 ?_
  refine r_goto k_132_10 ?_
  refine r_bret k_132_14 (by decide) ?_
  exact q1
theorem j_latin {d : Nat} {σ : zM} {K : zM → Option zV → Prop} (q1 : K σ (some (vI 1))) : zC (d + 1) 133 [vR (41)] σ K := by
  refine zC_in rfl ?_
  show zG (d) 133 K 0 zfx (0, [vR (41)], [], σ)
  refine r_cs k_133_0 ?_
  refine r_if_eq k_133_3 (fun hz => absurd hz (by decide)) (fun _ => ?_)
  refine r_aload k_133_6 rfl ?_
  refine r_scod k_133_7 ?_
  refine r_if_ne k_133_10 (fun hz => absurd hz (by decide)) (fun _ => ?_)
  refine r_const k_133_13 ?_
  refine r_goto k_133_14 ?_
  refine r_zret k_133_18 (by omega) ?_
  exact q1
theorem j_len {d : Nat} {σ : zM} {K : zM → Option zV → Prop} (q1 : K σ (some (vI 4))) : zC (d + 1 + 1) 129 [vR (41)] σ K := by
  refine zC_in rfl ?_
  show zG (d + 1) 129 K 0 zfx (0, [vR (41)], [], σ)
  refine r_aload k_129_0 rfl ?_
  refine r_sval k_129_1 ?_
  refine r_alen4 42 k_129_4 (by decide) ?_
  refine r_aload k_129_5 rfl ?_
  refine r_call (as := [vR (41)]) (r := [vI (4)]) k_129_6 rfl rfl rfl ?_
  refine j_coder ?_
  refine r_bin (v := 4) k_129_9 (by decide +kernel) ?_
  refine r_iret k_129_10 ?_
  exact q1
theorem j_can {d : Nat} {σ : zM} {K : zM → Option zV → Prop} {b : Int} (h0 : 0 ≤ b) (h1 : b < 128) (q1 : K σ (some (vI 1))) : zC (d + 1) 134 [vI (b)] σ K := by
  refine zC_in rfl ?_
  show zG (d) 134 K 0 zfx (0, [vI (b)], [], σ)
  refine r_iload k_134_0 rfl ?_
  refine r_if_lt k_134_1 (fun h1 => ?_) (fun h1 => ?_)
  · skip
    refine r_const k_134_15 ?_
    refine r_zret k_134_16 (by omega) ?_
    exfalso; omega
  · skip
    refine r_iload k_134_4 rfl ?_
    refine r_const k_134_5 ?_
    refine r_ic_gt k_134_8 (fun h8 => ?_) (fun h8 => ?_)
    · skip
      refine r_const k_134_15 ?_
      refine r_zret k_134_16 (by omega) ?_
      exfalso; omega
    · skip
      refine r_const k_134_11 ?_
      refine r_goto k_134_12 ?_
      refine r_zret k_134_16 (by omega) ?_
      exact q1
theorem j_chr {d : Nat} {σ : zM} {K : zM → Option zV → Prop} {b : Int} (h0 : 0 ≤ b) (h1 : b < 128) (q1 : K σ (some (vI (zco b)))) : zC (d + 1) 136 [vR (42), vI (b), vI (0), vI (4)] σ K := by
  refine zC_in rfl ?_
  show zG (d) 136 K 0 zfx (0, [vR (42), vI (b), vI (0), vI (4), vU, vU], [], σ)
  refine r_iload k_136_0 rfl ?_
  refine r_cnv (w := vI (b)) k_136_1 (by rw [show zcnv 2 (vI b) = some (vI (Int32.ofInt b).toInt8.toInt32.toInt) from rfl, zi2 h0 h1]) ?_
  refine r_istore (L' := [vR (42), vI (b), vI (0), vI (4), vI (b), vU]) k_136_2 rfl ?_
  refine r_iload k_136_4 rfl ?_
  refine r_istore (L' := [vR (42), vI (b), vI (0), vI (4), vI (b), vI (0)]) k_136_5 rfl ?_
  refine r_iload k_136_7 rfl ?_
  refine r_iload k_136_9 rfl ?_
  refine r_ic_ge k_136_10 (fun hz => absurd hz (by decide)) (fun _ => ?_)
  refine r_aload k_136_13 rfl ?_
  refine r_iload k_136_14 rfl ?_
  refine r_sbyte (v := 114) k_136_16 ⟨by decide, by decide⟩ (by decide) ?_
  refine r_iload k_136_17 rfl ?_
  refine r_ic_ne k_136_19 (fun h19 => ?_) (fun h19 => ?_)
  · skip
    refine r_iinc (v := 1) (L' := [vR (42), vI (b), vI (0), vI (4), vI (b), vI (1)]) k_136_25 rfl (by decide +kernel) rfl ?_
    refine r_goto k_136_28 ?_
    refine r_iload k_136_7 rfl ?_
    refine r_iload k_136_9 rfl ?_
    refine r_ic_ge k_136_10 (fun hz => absurd hz (by decide)) (fun _ => ?_)
    refine r_aload k_136_13 rfl ?_
    refine r_iload k_136_14 rfl ?_
    refine r_sbyte (v := 119) k_136_16 ⟨by decide, by decide⟩ (by decide) ?_
    refine r_iload k_136_17 rfl ?_
    refine r_ic_ne k_136_19 (fun h19 => ?_) (fun h19 => ?_)
    · skip
      refine r_iinc (v := 2) (L' := [vR (42), vI (b), vI (0), vI (4), vI (b), vI (2)]) k_136_25 rfl (by decide +kernel) rfl ?_
      refine r_goto k_136_28 ?_
      refine r_iload k_136_7 rfl ?_
      refine r_iload k_136_9 rfl ?_
      refine r_ic_ge k_136_10 (fun hz => absurd hz (by decide)) (fun _ => ?_)
      refine r_aload k_136_13 rfl ?_
      refine r_iload k_136_14 rfl ?_
      refine r_sbyte (v := 98) k_136_16 ⟨by decide, by decide⟩ (by decide) ?_
      refine r_iload k_136_17 rfl ?_
      refine r_ic_ne k_136_19 (fun h19 => ?_) (fun h19 => ?_)
      · skip
        refine r_iinc (v := 3) (L' := [vR (42), vI (b), vI (0), vI (4), vI (b), vI (3)]) k_136_25 rfl (by decide +kernel) rfl ?_
        refine r_goto k_136_28 ?_
        refine r_iload k_136_7 rfl ?_
        refine r_iload k_136_9 rfl ?_
        refine r_ic_ge k_136_10 (fun hz => absurd hz (by decide)) (fun _ => ?_)
        refine r_aload k_136_13 rfl ?_
        refine r_iload k_136_14 rfl ?_
        refine r_sbyte (v := 103) k_136_16 ⟨by decide, by decide⟩ (by decide) ?_
        refine r_iload k_136_17 rfl ?_
        refine r_ic_ne k_136_19 (fun h19 => ?_) (fun h19 => ?_)
        · skip
          refine r_iinc (v := 4) (L' := [vR (42), vI (b), vI (0), vI (4), vI (b), vI (4)]) k_136_25 rfl (by decide +kernel) rfl ?_
          refine r_goto k_136_28 ?_
          refine r_iload k_136_7 rfl ?_
          refine r_iload k_136_9 rfl ?_
          refine r_ic_ge k_136_10 (fun _ => ?_) (fun hz => absurd hz (by decide))
          refine r_const k_136_31 ?_
          refine r_iret k_136_32 ?_
          exact zKe q1 (by unfold zco; (repeat' split) <;> omega)
        · skip
          refine r_iload k_136_22 rfl ?_
          refine r_iret k_136_24 ?_
          exact zKe q1 (by unfold zco; (repeat' split) <;> omega)
      · skip
        refine r_iload k_136_22 rfl ?_
        refine r_iret k_136_24 ?_
        exact zKe q1 (by unfold zco; (repeat' split) <;> omega)
    · skip
      refine r_iload k_136_22 rfl ?_
      refine r_iret k_136_24 ?_
      exact zKe q1 (by unfold zco; (repeat' split) <;> omega)
  · skip
    refine r_iload k_136_22 rfl ?_
    refine r_iret k_136_24 ?_
    exact zKe q1 (by unfold zco; (repeat' split) <;> omega)
theorem j_ix4 {d : Nat} {σ : zM} {K : zM → Option zV → Prop} {b : Int} (h0 : 0 ≤ b) (h1 : b < 128) (q1 : K σ (some (vI (zco b)))) : zC (d + 1 + 1) 135 [vR (42), vI (b), vI (0), vI (4)] σ K := by
  refine zC_in rfl ?_
  show zG (d + 1) 135 K 0 zfx (0, [vR (42), vI (b), vI (0), vI (4)], [], σ)
  refine r_iload k_135_0 rfl ?_
  refine r_call (as := [vI (b)]) (r := []) k_135_1 rfl rfl rfl ?_
  refine j_can h0 h1 ?_
  refine r_if_ne k_135_4 (fun _ => ?_) (fun hz => absurd hz (by decide))
  refine r_iload k_135_9 rfl ?_
  refine r_const k_135_10 ?_
  refine r_max (v := 0) k_135_11 rfl (by decide) ?_
  refine r_istore (L' := [vR (42), vI (b), vI (0), vI (4)]) k_135_14 rfl ?_
  refine r_iload k_135_15 rfl ?_
  refine r_aload k_135_16 rfl ?_
  refine r_alen4 42 k_135_17 (by decide) ?_
  refine r_min (v := 4) k_135_18 rfl (by decide) ?_
  refine r_istore (L' := [vR (42), vI (b), vI (0), vI (4)]) k_135_21 rfl ?_
  refine r_iload k_135_22 rfl ?_
  refine r_iload k_135_23 rfl ?_
  refine r_ic_lt k_135_24 (fun _ => ?_) (fun hz => absurd hz (by decide))
  refine r_aload k_135_29 rfl ?_
  refine r_iload k_135_30 rfl ?_
  refine r_iload k_135_31 rfl ?_
  refine r_iload k_135_32 rfl ?_
  refine r_call (as := [vR (42), vI (b), vI (0), vI (4)]) (r := []) k_135_33 rfl rfl rfl ?_
  refine j_chr h0 h1 ?_
  refine r_iret k_135_36 ?_
  exact q1
theorem j_ix3 {d : Nat} {σ : zM} {K : zM → Option zV → Prop} {b : Int} (h0 : 0 ≤ b) (h1 : b < 128) (q1 : K σ (some (vI (zco b)))) : zC (d + 2 + 1) 131 [vR (41), vI (b), vI (0)] σ K := by
  refine zC_in rfl ?_
  show zG (d + 2) 131 K 0 zfx (0, [vR (41), vI (b), vI (0)], [], σ)
  refine r_aload k_131_0 rfl ?_
  refine r_call (as := [vR (41)]) (r := []) k_131_1 rfl rfl rfl ?_
  refine j_latin ?_
  refine r_if_eq k_131_4 (fun hz => absurd hz (by decide)) (fun _ => ?_)
  refine r_aload k_131_7 rfl ?_
  refine r_sval k_131_8 ?_
  refine r_iload k_131_11 rfl ?_
  refine r_iload k_131_12 rfl ?_
  refine r_aload k_131_13 rfl ?_
  refine r_call (as := [vR (41)]) (r := [vI (0), vI (b), vR (42)]) k_131_14 rfl rfl rfl ?_
  refine j_len ?_
  refine r_call (as := [vR (42), vI (b), vI (0), vI (4)]) (r := []) k_131_17 rfl rfl rfl ?_
  refine j_ix4 h0 h1 ?_
  refine r_goto k_131_20 ?_
  refine r_iret k_131_36 ?_
  exact q1
theorem j_ix {d : Nat} {σ : zM} {K : zM → Option zV → Prop} {b : Int} (h0 : 0 ≤ b) (h1 : b < 128) (q1 : K σ (some (vI (zco b)))) : zC (d + 3 + 1) 130 [vR (41), vI (b)] σ K := by
  refine zC_in rfl ?_
  show zG (d + 3) 130 K 0 zfx (0, [vR (41), vI (b)], [], σ)
  refine r_aload k_130_0 rfl ?_
  refine r_iload k_130_1 rfl ?_
  refine r_const k_130_2 ?_
  refine r_call (as := [vR (41), vI (b), vI (0)]) (r := []) k_130_3 rfl rfl rfl ?_
  refine j_ix3 h0 h1 ?_
  refine r_iret k_130_6 ?_
  exact q1
theorem y_colourOf {d : Nat} {σ : zM} {K : zM → Option zV → Prop} {b : Int} (q1 : K σ (some (vI (if zco b = -1 then -4 else zco b)))) : zC (d + 1) 94 [vI (b)] σ K := by
  refine zC_in rfl ?_
  show zG (d) 94 K 0 zfx (0, [vI (b)], [], σ)
  refine r_iload k_94_0 rfl ?_
  refine r_const k_94_1 ?_
  refine r_ic_ne k_94_3 (fun h3 => ?_) (fun h3 => ?_)
  · skip
    refine r_iload k_94_10 rfl ?_
    refine r_const k_94_11 ?_
    refine r_ic_ne k_94_13 (fun h13 => ?_) (fun h13 => ?_)
    · skip
      refine r_iload k_94_20 rfl ?_
      refine r_const k_94_21 ?_
      refine r_ic_ne k_94_23 (fun h23 => ?_) (fun h23 => ?_)
      · skip
        refine r_iload k_94_30 rfl ?_
        refine r_const k_94_31 ?_
        refine r_ic_ne k_94_33 (fun h33 => ?_) (fun h33 => ?_)
        · skip
          refine r_const k_94_40 ?_
          refine r_iret k_94_42 ?_
          exact zKe q1 (by unfold zco; (repeat' split) <;> omega)
        · skip
          refine r_const k_94_36 ?_
          refine r_goto k_94_37 ?_
          refine r_iret k_94_42 ?_
          exact zKe q1 (by unfold zco; (repeat' split) <;> omega)
      · skip
        refine r_const k_94_26 ?_
        refine r_goto k_94_27 ?_
        refine r_iret k_94_42 ?_
        exact zKe q1 (by unfold zco; (repeat' split) <;> omega)
    · skip
      refine r_const k_94_16 ?_
      refine r_goto k_94_17 ?_
      refine r_iret k_94_42 ?_
      exact zKe q1 (by unfold zco; (repeat' split) <;> omega)
  · skip
    refine r_const k_94_6 ?_
    refine r_goto k_94_7 ?_
    refine r_iret k_94_42 ?_
    exact zKe q1 (by unfold zco; (repeat' split) <;> omega)
theorem v_read {d : Nat} {σ : zM} {K : zM → Option zV → Prop} {C : Nat} {law least draw : Int} {l : List Int} {p : Nat → Int} (hg : zgd C law least draw l p) (hx : zXn σ C law least draw l p) {T : Nat} (ht : ∀ k, k < T → 32 ≤ σ.2 6 k ∧ σ.2 6 k ≤ 126) (hT0 : σ.1 13 = (T : Int)) (hT1 : T ≤ 100) (q1 : ∀ υ, zfr [2] [2] σ υ → zis υ 2 (zrt C (σ.2 6) T 0 []).2 → K υ (some (vI (zrt C (σ.2 6) T 0 []).1))) : zC (d + 4 + 1) 36 [vR (0)] σ K := by
  have hl := hg.2.2.1
  have hb := hg.1
  have hC := hg.1.1
  have hC4 := hg.1.2.1
  refine zC_in rfl ?_
  have lp : ∀ (m : Nat) (i : Nat) (a : List Int) (τ : zM), i + m = T → a.length ≤ 48 → zrl τ C law least → zis τ 2 a → zfr [2] [2] σ τ → (∀ υ, zfr [2] [2] σ υ → zis υ 2 (zrt C (σ.2 6) m i a).2 → K υ (some (vI (zrt C (σ.2 6) m i a).1))) → zG (d + 4) 36 K 0 zfx (10, [vR (0), vI ((i : Int)), vU, vU], [], τ) := by
    intro m
    induction m using Nat.strongRecOn with
    | _ m ih =>
    intro i a τ hm ha48 W1 hz1 F1 hq
    refine r_iload k_36_10 rfl ?_
    refine r_aload k_36_11 rfl ?_
    refine r_getR (q := 11) k_36_12 ⟨rfl, rfl⟩ ?_
    refine r_getS (v := (T : Int)) k_36_15 ⟨rfl, rfl⟩ ((F1.1 13 (by decide)).trans hT0) ?_
    refine r_ic_ge k_36_18 (fun h18 => ?_) (fun h18 => ?_)
    · skip
      refine r_aload k_36_89 rfl ?_
      refine r_getR (q := 22) k_36_90 ⟨rfl, rfl⟩ ?_
      refine r_getS (v := (a.length : Int)) k_36_93 ⟨rfl, rfl⟩ hz1.1 ?_
      refine r_iret k_36_96 ?_
      have e : m = 0 := by omega
      subst e
      exact hq _ F1 hz1
    · skip
      refine r_aload k_36_21 rfl ?_
      refine r_getR (q := 11) k_36_22 ⟨rfl, rfl⟩ ?_
      refine r_iload k_36_25 rfl ?_
      refine r_call (as := [vR (11), vI ((i : Int))]) (r := []) k_36_26 rfl rfl rfl ?_
      refine s_tat (fun _ _ => ?_) (fun q => by omega)
      rw [F1.2 6 (by decide), show ((i : Nat) : Int).toNat = i by omega]
      have hti := ht i (by omega)
      have hzc := zco_b (σ.2 6 i)
      refine r_istore (L' := [vR (0), vI ((i : Int)), vI ((σ.2 6 i)), vU]) k_36_29 rfl ?_
      refine r_iload k_36_30 rfl ?_
      refine r_const k_36_31 ?_
      refine r_ic_eq k_36_33 (fun h33 => ?_) (fun h33 => ?_)
      · skip
        refine r_iinc (v := (i : Int) + 1) (L' := [vR (0), vI ((i : Int) + 1), vI ((σ.2 6 i)), vU]) k_36_83 rfl (zb_add ⟨by omega, by omega⟩) rfl ?_
        refine r_goto k_36_86 ?_
        refine r_cut (L' := [vR (0), vI ((i : Int) + 1), vU, vU]) 2 rfl ?_
        obtain ⟨m2, rfl⟩ : ∃ m2, m = m2 + 1 := ⟨m - 1, by omega⟩
        have e : zrt C (σ.2 6) (m2 + 1) i a = zrt C (σ.2 6) m2 (i + 1) a := by rw [zrt, if_pos (by omega)]
        rw [e] at hq
        exact ih m2 (by omega) (i + 1) a _ (by omega) ha48 W1 hz1 F1 hq
      · skip
        refine r_str k_36_36 ?_
        refine r_iload k_36_38 rfl ?_
        refine r_cnv (w := vI ((σ.2 6 i))) k_36_39 (by rw [show zcnv 4 (vI (σ.2 6 i)) = some (vI ((Int32.ofInt (σ.2 6 i)).toUInt32 % 65536).toInt32.toInt) from rfl, zc2 (by omega) (by omega)]) ?_
        refine r_call (as := [vR (41), vI ((σ.2 6 i))]) (r := []) k_36_40 rfl rfl rfl ?_
        refine j_ix (by omega) (by omega) ?_
        refine r_istore (L' := [vR (0), vI ((i : Int)), vI ((σ.2 6 i)), vI ((zco (σ.2 6 i)))]) k_36_43 rfl ?_
        refine r_aload k_36_44 rfl ?_
        refine r_getR (q := 1) k_36_45 ⟨rfl, rfl⟩ ?_
        refine r_getR (q := 4) k_36_48 ⟨rfl, rfl⟩ ?_
        refine r_iload k_36_51 rfl ?_
        refine r_call (as := [vR (4), vI ((zco (σ.2 6 i)))]) (r := []) k_36_52 rfl rfl rfl ?_
        refine s_hasCol (fun g52 e52 => ?_) (fun g52 => ?_)
        · skip
          rw [W1.1] at e52
          refine r_if_eq k_36_55 (fun hz => absurd hz (by decide)) (fun _ => ?_)
          refine r_aload k_36_58 rfl ?_
          refine r_getR (q := 22) k_36_59 ⟨rfl, rfl⟩ ?_
          refine r_getS (v := (a.length : Int)) k_36_62 ⟨rfl, rfl⟩ hz1.1 ?_
          refine r_const k_36_65 ?_
          refine r_ic_lt k_36_67 (fun h67 => ?_) (fun h67 => ?_)
          · skip
            refine r_aload k_36_75 rfl ?_
            refine r_getR (q := 22) k_36_76 ⟨rfl, rfl⟩ ?_
            refine r_iload k_36_79 rfl ?_
            refine r_call (as := [vR (22), vI ((zco (σ.2 6 i)))]) (r := []) k_36_80 rfl rfl rfl ?_
            refine v_add (r := 2) (l := a) (c := (zco (σ.2 6 i))) (by decide) hz1 (by omega) (fun τ2 f2 z2 => ?_)
            have F2 := zfr_2 F1 f2 (by decide) (by decide)
            have W2 := zrl_fr W1 f2 (by decide)
            refine r_iinc (v := (i : Int) + 1) (L' := [vR (0), vI ((i : Int) + 1), vI ((σ.2 6 i)), vI ((zco (σ.2 6 i)))]) k_36_83 rfl (zb_add ⟨by omega, by omega⟩) rfl ?_
            refine r_goto k_36_86 ?_
            refine r_cut (L' := [vR (0), vI ((i : Int) + 1), vU, vU]) 2 rfl ?_
            obtain ⟨m2, rfl⟩ : ∃ m2, m = m2 + 1 := ⟨m - 1, by omega⟩
            have e : zrt C (σ.2 6) (m2 + 1) i a = zrt C (σ.2 6) m2 (i + 1) (a ++ [zco (σ.2 6 i)]) := by rw [zrt, if_neg (by omega), if_pos (by omega)]
            rw [e] at hq
            exact ih m2 (by omega) (i + 1) _ _ (by omega) (by rw [zlen1]; omega) W2 z2 F2 hq
          · skip
            refine r_const k_36_70 ?_
            refine r_iload k_36_72 rfl ?_
            refine r_bin (v := -20 - ((i : Int))) k_36_73 (zb_sub ⟨by omega, by omega⟩) ?_
            refine r_iret k_36_74 ?_
            obtain ⟨m2, rfl⟩ : ∃ m2, m = m2 + 1 := ⟨m - 1, by omega⟩
            have e : zrt C (σ.2 6) (m2 + 1) i a = (-20 - (i : Int), a) := by rw [zrt, if_neg (by omega), if_neg (by omega)]
            rw [e] at hq
            exact hq _ F1 hz1
        · skip
          rw [W1.1] at g52
          refine r_if_eq k_36_55 (fun _ => ?_) (fun hz => absurd hz (by decide))
          refine r_const k_36_70 ?_
          refine r_iload k_36_72 rfl ?_
          refine r_bin (v := -20 - ((i : Int))) k_36_73 (zb_sub ⟨by omega, by omega⟩) ?_
          refine r_iret k_36_74 ?_
          obtain ⟨m2, rfl⟩ : ∃ m2, m = m2 + 1 := ⟨m - 1, by omega⟩
          have e : zrt C (σ.2 6) (m2 + 1) i a = (-20 - (i : Int), a) := by rw [zrt, if_neg (by omega), if_neg (by omega)]
          rw [e] at hq
          exact hq _ F1 hz1
  show zG (d + 4) 36 K 0 zfx (0, [vR (0), vU, vU, vU], [], σ)
  refine r_aload k_36_0 rfl ?_
  refine r_getR (q := 22) k_36_1 ⟨rfl, rfl⟩ ?_
  refine r_const k_36_4 ?_
  refine r_putS k_36_5 ⟨rfl, rfl⟩ ?_
  refine r_const k_36_8 ?_
  refine r_istore (L' := [vR (0), vI (0), vU, vU]) k_36_9 rfl ?_
  exact lp T 0 [] _ (by omega) (by decide) (zrl_fr hx.1 (zfr_S (S := [2]) (A := []) zfr_rf (by decide)) (by decide)) ⟨zS_1 _ _ _, fun k hk => absurd hk (Nat.not_lt_zero _)⟩ (zfr_S zfr_rf (by decide)) q1
theorem x_fence {d : Nat} {σ : zM} {K : zM → Option zV → Prop} {C : Nat} {law least draw : Int} {l : List Int} {p : Nat → Int} (hg : zgd C law least draw l p) (hx : zXn σ C law least draw l p) {T : Nat} (ht : ∀ k, k < T → 32 ≤ σ.2 6 k ∧ σ.2 6 k ≤ 126) (hT0 : σ.1 13 = (T : Int)) (hT1 : T ≤ 100) (q1 : ∀ υ, (zrt C (σ.2 6) T 0 []).1 < 0 → zfr [2, 13] [2] σ υ → υ.1 13 = 0 → K υ (some (vI (zrt C (σ.2 6) T 0 []).1))) (q2 : ∀ υ, 0 ≤ (zrt C (σ.2 6) T 0 []).1 → zfr [0, 2, 13] [0, 2] σ υ → υ.1 13 = 0 → zis υ 0 (zrt C (σ.2 6) T 0 []).2 → K υ (some (vI (zrt C (σ.2 6) T 0 []).1))) : zC (d + 5 + 1) 35 [vR (0)] σ K := by
  have hl := hg.2.2.1
  have hb := hg.1
  have hC := hg.1.1
  have hC4 := hg.1.2.1
  refine zC_in rfl ?_
  show zG (d + 5) 35 K 0 zfx (0, [vR (0), vU], [], σ)
  refine r_aload k_35_0 rfl ?_
  refine r_call (as := [vR (0)]) (r := []) k_35_1 rfl rfl rfl ?_
  refine v_read hg hx ht hT0 hT1 (fun τ1 f1 z1 => ?_)
  have hzl := zrt_len (C := C) (t := σ.2 6) T 0 [] (by decide)
  have hzo := zrt_ok (C := C) (t := σ.2 6) T 0 [] (by decide) (fun x hx => absurd hx List.not_mem_nil)
  refine r_istore (L' := [vR (0), vI ((zrt C (σ.2 6) T 0 []).1)]) k_35_4 rfl ?_
  refine r_aload k_35_5 rfl ?_
  refine r_getR (q := 11) k_35_6 ⟨rfl, rfl⟩ ?_
  refine r_const k_35_9 ?_
  refine r_putS k_35_10 ⟨rfl, rfl⟩ ?_
  refine r_iload k_35_13 rfl ?_
  refine r_if_lt k_35_14 (fun h14 => ?_) (fun h14 => ?_)
  · skip
    refine r_iload k_35_38 rfl ?_
    refine r_iret k_35_39 ?_
    exact q1 _ (by omega) (zfr_S (zfr_w f1 (by decide) (by decide)) (by decide)) (zS_1 _ _ _)
  · skip
    refine r_aload k_35_17 rfl ?_
    refine r_getR (q := 1) k_35_18 ⟨rfl, rfl⟩ ?_
    refine r_getR (q := 2) k_35_21 ⟨rfl, rfl⟩ ?_
    refine r_aload k_35_24 rfl ?_
    refine r_getR (q := 22) k_35_25 ⟨rfl, rfl⟩ ?_
    refine r_aload k_35_28 rfl ?_
    refine r_getR (q := 22) k_35_29 ⟨rfl, rfl⟩ ?_
    refine r_getS (v := ((zrt C (σ.2 6) T 0 []).2.length : Int)) k_35_32 ⟨rfl, rfl⟩ z1.1 ?_
    refine r_call (as := [vR (2), vR (22), vI (((zrt C (σ.2 6) T 0 []).2.length : Int))]) (r := []) k_35_35 rfl rfl rfl ?_
    have zz : zis (zsetS τ1 13 0) 2 (zrt C (σ.2 6) T 0 []).2 := ⟨z1.1, z1.2⟩
    refine s_takel (r := 0) (t := 2) (l := (zrt C (σ.2 6) T 0 []).2) (m := (zrt C (σ.2 6) T 0 []).2.length) (by decide) (by decide) zz (by omega) rfl (Nat.le_refl _) (fun τ2 f2 z2 => ?_)
    rw [List.take_length] at z2
    have F2 : zfr [0, 2, 13] [0, 2] σ τ2 := zfr_tr (zfr_S (zfr_w f1 (S' := [2, 13]) (A' := [2]) (by decide) (by decide)) (by decide)) f2 (by decide) (by decide)
    have e13 : τ2.1 13 = 0 := (f2.1 13 (by decide)).trans (zS_1 _ _ _)
    refine r_iload k_35_38 rfl ?_
    refine r_iret k_35_39 ?_
    exact q2 _ (by omega) F2 e13 z2
theorem y_fence {d : Nat} {σ : zM} {K : zM → Option zV → Prop} {C : Nat} {law least draw : Int} {l : List Int} {p : Nat → Int} (hg : zgd C law least draw l p) (hy : zYn (σ.2 12) C law least draw l p) {T : Nat} (ht : ∀ k, k < T → 32 ≤ σ.2 14 k ∧ σ.2 14 k ≤ 126) (hT0 : σ.1 23 = (T : Int)) (hT1 : T ≤ 100) (q1 : ∀ υ, (zrt C (σ.2 14) T 0 []).1 < 0 → zfr [23] [18] σ υ → υ.1 23 = 0 → K υ (some (vI (zrt C (σ.2 14) T 0 []).1))) (q2 : ∀ υ, 0 ≤ (zrt C (σ.2 14) T 0 []).1 → zfr [23] [12, 18] σ υ → υ.1 23 = 0 → zYn (υ.2 12) C law least draw (zrt C (σ.2 14) T 0 []).2 p → K υ (some (vI (zrt C (σ.2 14) T 0 []).1))) : zC (d + 2 + 1) 95 [vR (27)] σ K := by
  have hl := hg.2.2.1
  have hb := hg.1
  have hC := hg.1.1
  have hC4 := hg.1.2.1
  refine zC_in rfl ?_
  have lp2 : ∀ (m : Nat) (r : List Int) (k : Nat) (τ : zM), r.length - k = m → k ≤ r.length → r.length ≤ 48 → zfr [23] [12, 18] σ τ → zrs τ r → τ.1 23 = 0 → (∀ j, j < 9 → τ.2 12 j = σ.2 12 j) → (∀ j, j < k → τ.2 12 (9 + j) = zlf r j) → (∀ υ, zfr [23] [12, 18] σ υ → υ.1 23 = 0 → zYn (υ.2 12) C law least draw r p → K υ (some (vI r.length))) → zG (d + 2) 95 K 0 zfx (86, [vR (27), vI ((T : Int)), vI ((r.length : Int)), vI ((k : Int))], [], τ) := by
    intro m
    induction m using Nat.strongRecOn with
    | _ m ih =>
    intro r k τ hm g1 hr48 hf hrs h23 ho hc hq
    refine r_iload k_95_86 rfl ?_
    refine r_iload k_95_87 rfl ?_
    refine r_ic_ge k_95_88 (fun h88 => ?_) (fun h88 => ?_)
    · skip
      refine r_aload k_95_112 rfl ?_
      refine r_getR (q := 28) k_95_113 ⟨rfl, rfl⟩ ?_
      refine r_const k_95_116 ?_
      refine r_iload k_95_117 rfl ?_
      refine r_iast k_95_118 ⟨rfl, rfl⟩ ⟨by decide, by decide⟩ ?_
      refine r_iload k_95_119 rfl ?_
      refine r_iret k_95_120 ?_
      have ek : k = r.length := by omega
      refine hq _ (zfr_A hf (by decide)) h23 ?_
      rw [zA_2, show (4 : Int).toNat = 4 from rfl]
      obtain ⟨a0, a1, a2, a3, a4, a5, a6⟩ := hy
      refine ⟨?_, ?_, ?_, ?_, ?_, fun j hj => ?_, fun j hj => ?_⟩
      · rw [zup_n (by decide), ho 0 (by omega)]; exact a0
      · rw [zup_n (by decide), ho 1 (by omega)]; exact a1
      · rw [zup_n (by decide), ho 2 (by omega)]; exact a2
      · rw [zup_n (by decide), ho 3 (by omega)]; exact a3
      · rw [zup_1]
      · rw [zup_n (by omega), ho _ (by omega)]; exact a5 j hj
      · rw [zup_n (by omega)]; exact hc j (by omega)
    · skip
      refine r_aload k_95_91 rfl ?_
      refine r_getR (q := 28) k_95_92 ⟨rfl, rfl⟩ ?_
      refine r_const k_95_95 ?_
      refine r_iload k_95_97 rfl ?_
      refine r_bin (v := 9 + ((k : Int))) k_95_98 (zb_add ⟨by omega, by omega⟩) ?_
      refine r_aload k_95_99 rfl ?_
      refine r_getR (q := 34) k_95_100 ⟨rfl, rfl⟩ ?_
      refine r_iload k_95_103 rfl ?_
      refine r_iald (v := (zlf r k)) k_95_104 ⟨rfl, rfl⟩ ⟨by omega, by omega⟩ (by rw [show ((k : Nat) : Int).toNat = k by omega]; exact hrs k (by omega)) ?_
      refine r_iast k_95_105 ⟨rfl, rfl⟩ ⟨by omega, by omega⟩ ?_
      refine r_iinc (v := (k : Int) + 1) (L' := [vR (27), vI ((T : Int)), vI ((r.length : Int)), vI ((k : Int) + 1)]) k_95_106 rfl (zb_add ⟨by omega, by omega⟩) rfl ?_
      refine r_goto k_95_109 ?_
      refine ih _ (by omega) r (k + 1) _ rfl (by omega) hr48 (zfr_A hf (by decide)) (fun j hj => hrs j hj) h23 (fun j hj => ?_) (fun j hj => ?_) hq
      · rw [zA_2, zup_n (by omega)]; exact ho j hj
      · rw [zA_2]
        by_cases e : j = k
        · subst e; rw [show ((9 : Int) + (j : Int)).toNat = 9 + j by omega, zup_1]
        · rw [zup_n (by omega)]; exact hc j (by omega)
  have lp : ∀ (m : Nat) (i : Nat) (a : List Int) (τ : zM), i + m = T → a.length ≤ 48 → τ.1 23 = 0 → zrs τ a → zfr [23] [18] σ τ → (∀ υ, zfr [23] [18] σ υ → υ.1 23 = 0 → (zrt C (σ.2 14) m i a).1 < 0 → K υ (some (vI (zrt C (σ.2 14) m i a).1))) → (∀ υ, zfr [23] [18] σ υ → υ.1 23 = 0 → zrs υ (zrt C (σ.2 14) m i a).2 → 0 ≤ (zrt C (σ.2 14) m i a).1 → (zrt C (σ.2 14) m i a).1 = ((zrt C (σ.2 14) m i a).2.length : Int) → zG (d + 2) 95 K 0 zfx (84, [vR 27, vI (T : Int), vI ((zrt C (σ.2 14) m i a).2.length : Int), vI (T : Int)], [], υ)) → zG (d + 2) 95 K 0 zfx (14, [vR (27), vI ((T : Int)), vI ((a.length : Int)), vI ((i : Int))], [], τ) := by
    intro m
    induction m using Nat.strongRecOn with
    | _ m ih =>
    intro i a τ hm ha48 h23 hz1 F1 hf hq
    have hti : i < T → 32 ≤ σ.2 14 i ∧ σ.2 14 i ≤ 126 := fun q => ht i q
    refine r_iload k_95_14 rfl ?_
    refine r_iload k_95_15 rfl ?_
    refine r_ic_ge k_95_16 (fun h16 => ?_) (fun h16 => ?_)
    · skip
      have e0 : (i : Int) = (T : Int) := by omega
      rw [e0]
      have e : m = 0 := by omega
      subst e
      exact hq _ F1 h23 hz1 (by show 0 ≤ (a.length : Int); omega) rfl
    · skip
      refine r_aload k_95_19 rfl ?_
      refine r_getR (q := 30) k_95_20 ⟨rfl, rfl⟩ ?_
      refine r_iload k_95_23 rfl ?_
      refine r_iald (v := (σ.2 14 i)) k_95_24 ⟨rfl, rfl⟩ ⟨by omega, by omega⟩ (by rw [F1.2 14 (by decide), show ((i : Nat) : Int).toNat = i by omega]) ?_
      refine r_const k_95_25 ?_
      refine r_ic_ne k_95_27 (fun h27 => ?_) (fun h27 => ?_)
      · skip
        refine r_iload k_95_33 rfl ?_
        refine r_const k_95_34 ?_
        refine r_ic_eq k_95_36 (fun h36 => ?_) (fun h36 => ?_)
        · skip
          refine r_const k_95_55 ?_
          refine r_iload k_95_57 rfl ?_
          refine r_bin (v := -20 - ((i : Int))) k_95_58 (zb_sub ⟨by omega, by omega⟩) ?_
          refine r_iret k_95_59 ?_
          obtain ⟨m2, rfl⟩ : ∃ m2, m = m2 + 1 := ⟨m - 1, by omega⟩
          have e : zrt C (σ.2 14) (m2 + 1) i a = (-20 - (i : Int), a) := by rw [zrt, if_neg (by omega), if_neg (by omega)]
          exact zKe (hf _ F1 h23 (by rw [e]; show -20 - (i : Int) < 0; omega)) (by rw [e])
        · skip
          refine r_aload k_95_39 rfl ?_
          refine r_aload k_95_40 rfl ?_
          refine r_getR (q := 30) k_95_41 ⟨rfl, rfl⟩ ?_
          refine r_iload k_95_44 rfl ?_
          refine r_iald (v := (σ.2 14 i)) k_95_45 ⟨rfl, rfl⟩ ⟨by omega, by omega⟩ (by rw [F1.2 14 (by decide), show ((i : Nat) : Int).toNat = i by omega]) ?_
          refine r_call (as := [vI ((σ.2 14 i))]) (r := [vR (27)]) k_95_46 rfl rfl rfl ?_
          refine y_colourOf ?_
          refine r_call (as := [vR (27), vI ((if zco (σ.2 14 i) = -1 then -4 else zco (σ.2 14 i)))]) (r := []) k_95_49 rfl rfl rfl ?_
          have hzc := zco_b (σ.2 14 i)
          have hYt : zYn (τ.2 12) C law least draw l p := by rw [F1.2 12 (by decide)]; exact hy
          refine y_isColour hg hYt (fun g49 e49 => ?_) (fun g49 => ?_)
          · skip
            have hne : zco (σ.2 14 i) ≠ -1 := fun q => by rw [if_pos q] at g49; omega
            rw [if_neg hne] at g49 e49
            refine r_if_ne k_95_52 (fun _ => ?_) (fun hz => absurd hz (by decide))
            refine r_aload k_95_60 rfl ?_
            refine r_getR (q := 34) k_95_61 ⟨rfl, rfl⟩ ?_
            refine r_iload k_95_64 rfl ?_
            refine r_aload k_95_65 rfl ?_
            refine r_getR (q := 30) k_95_66 ⟨rfl, rfl⟩ ?_
            refine r_iload k_95_69 rfl ?_
            refine r_iald (v := (σ.2 14 i)) k_95_70 ⟨rfl, rfl⟩ ⟨by omega, by omega⟩ (by rw [F1.2 14 (by decide), show ((i : Nat) : Int).toNat = i by omega]) ?_
            refine r_call (as := [vI ((σ.2 14 i))]) (r := [vI ((a.length : Int)), vR (34)]) k_95_71 rfl rfl rfl ?_
            refine y_colourOf ?_
            refine r_iast k_95_74 ⟨rfl, rfl⟩ ⟨by omega, by omega⟩ ?_
            refine r_iinc (v := (a.length : Int) + 1) (L' := [vR (27), vI ((T : Int)), vI ((a.length : Int) + 1), vI ((i : Int))]) k_95_75 rfl (zb_add ⟨by omega, by omega⟩) rfl ?_
            refine r_iinc (v := (i : Int) + 1) (L' := [vR (27), vI ((T : Int)), vI ((a.length : Int) + 1), vI ((i : Int) + 1)]) k_95_78 rfl (zb_add ⟨by omega, by omega⟩) rfl ?_
            refine r_goto k_95_81 ?_
            obtain ⟨m2, rfl⟩ : ∃ m2, m = m2 + 1 := ⟨m - 1, by omega⟩
            have e : zrt C (σ.2 14) (m2 + 1) i a = zrt C (σ.2 14) m2 (i + 1) (a ++ [zco (σ.2 14 i)]) := by rw [zrt, if_neg (by omega), if_pos (by omega)]
            rw [e] at hq hf
            rw [if_neg hne]
            have hh := ih m2 (by omega) (i + 1) (a ++ [zco (σ.2 14 i)]) (zsetA τ 18 (zup (τ.2 18) ((a.length : Int)).toNat (zco (σ.2 14 i)))) (by omega) (by rw [zlen1]; omega) h23 (zrs_put (c := zco (σ.2 14 i)) (k := ((a.length : Int)).toNat) hz1 (by omega)) (zfr_A F1 (by decide)) hf hq
            rw [zlen1] at hh
            exact hh
          · skip
            have hno : ¬ (0 ≤ zco (σ.2 14 i) ∧ zco (σ.2 14 i) < (C : Int)) := fun q => g49 (by rw [if_neg (by omega)]; exact q)
            refine r_if_ne k_95_52 (fun hz => absurd hz (by decide)) (fun _ => ?_)
            refine r_const k_95_55 ?_
            refine r_iload k_95_57 rfl ?_
            refine r_bin (v := -20 - ((i : Int))) k_95_58 (zb_sub ⟨by omega, by omega⟩) ?_
            refine r_iret k_95_59 ?_
            obtain ⟨m2, rfl⟩ : ∃ m2, m = m2 + 1 := ⟨m - 1, by omega⟩
            have e : zrt C (σ.2 14) (m2 + 1) i a = (-20 - (i : Int), a) := by rw [zrt, if_neg (by omega), if_neg (by omega)]
            exact zKe (hf _ F1 h23 (by rw [e]; show -20 - (i : Int) < 0; omega)) (by rw [e])
      · skip
        refine r_goto k_95_30 ?_
        refine r_iinc (v := (i : Int) + 1) (L' := [vR (27), vI ((T : Int)), vI ((a.length : Int)), vI ((i : Int) + 1)]) k_95_78 rfl (zb_add ⟨by omega, by omega⟩) rfl ?_
        refine r_goto k_95_81 ?_
        obtain ⟨m2, rfl⟩ : ∃ m2, m = m2 + 1 := ⟨m - 1, by omega⟩
        have e : zrt C (σ.2 14) (m2 + 1) i a = zrt C (σ.2 14) m2 (i + 1) a := by rw [zrt, if_pos (by omega)]
        rw [e] at hq hf
        exact ih m2 (by omega) (i + 1) a _ (by omega) ha48 h23 hz1 F1 hf hq
  show zG (d + 2) 95 K 0 zfx (0, [vR (27), vU, vU, vU], [], σ)
  refine r_aload k_95_0 rfl ?_
  refine r_getS (v := (T : Int)) k_95_1 ⟨rfl, rfl⟩ hT0 ?_
  refine r_istore (L' := [vR (27), vI ((T : Int)), vU, vU]) k_95_4 rfl ?_
  refine r_aload k_95_5 rfl ?_
  refine r_const k_95_6 ?_
  refine r_putS k_95_7 ⟨rfl, rfl⟩ ?_
  refine r_const k_95_10 ?_
  refine r_istore (L' := [vR (27), vI ((T : Int)), vI (0), vU]) k_95_11 rfl ?_
  refine r_const k_95_12 ?_
  refine r_istore (L' := [vR (27), vI ((T : Int)), vI (0), vI (0)]) k_95_13 rfl ?_
  refine lp T 0 [] (zsetS σ 23 0) (by omega) (by decide) (zS_1 _ _ _) (fun k hk => absurd hk (Nat.not_lt_zero _)) (zfr_S zfr_rf (by decide)) (fun υ fu e23 e1 => q1 υ e1 fu e23) (fun υ fu h23 zu h0 e1 => ?_)
  have hzl := zrt_len (C := C) (t := σ.2 14) T 0 [] (by decide)
  refine r_const k_95_84 ?_
  refine r_istore (L' := [vR (27), vI ((T : Int)), vI (((zrt C (σ.2 14) T 0 []).2.length : Int)), vI (0)]) k_95_85 rfl ?_
  exact lp2 _ (zrt C (σ.2 14) T 0 []).2 0 _ rfl (by omega) (by omega) (zfr_w fu (by decide) (by decide)) zu h23 (fun j _ => congrFun (fu.2 12 (by decide)) j) (fun j hj => absurd hj (Nat.not_lt_zero _)) (fun υ f3 e3 y3 => zKe (q2 υ h0 f3 e3 y3) e1)
theorem p_fence {d : Nat} {σ : zM} (h : zInv σ) : zC (d + 41) 35 [vR 0] σ (fun σ1 r1 => zC (d + 5) 95 [vR 27] σ1 (zpq σ1 r1)) := by
  obtain ⟨C, law, least, draw, l, p, hg, hx, hy⟩ := h.1
  obtain ⟨t1, t2, t3, t4⟩ := h.2.2.1
  obtain ⟨T, hT⟩ : ∃ T : Nat, σ.1 13 = (T : Int) := ⟨(σ.1 13).toNat, by omega⟩
  have hT1 : T ≤ 100 := by omega
  have ez : zrt C (σ.2 14) T 0 [] = zrt C (σ.2 6) T 0 [] := zrt_c T 0 [] (fun j _ hj => (t4 j (by omega)).1)
  have htx : ∀ k, k < T → 32 ≤ σ.2 6 k ∧ σ.2 6 k ≤ 126 := fun k hk => (t4 k (by omega)).2
  have hty : ∀ k, k < T → 32 ≤ σ.2 14 k ∧ σ.2 14 k ≤ 126 := fun k hk => by rw [(t4 k (by omega)).1]; exact htx k hk
  refine x_fence (d := d + 35) hg hx htx hT hT1 (fun τ e f a1 => ?_) (fun τ e f a1 a2 => ?_)
  · have hy2 : zYn (τ.2 12) C law least draw l p := by rw [f.2 12 (by decide)]; exact hy
    refine y_fence (d := d + 2) (T := T) hg hy2 (by rw [f.2 14 (by decide)]; exact hty) ((f.1 23 (by decide)).trans (by omega)) hT1 (fun υ e2 f2 a3 => ?_) (fun υ e2 f2 a3 => ?_)
    · rw [f.2 14 (by decide), ez] at e2 ⊢
      have F : zfr [2, 13, 23] [2, 18] σ υ := zfr_tr f f2 (by decide) (by decide)
      refine ⟨⟨_, rfl, rfl⟩, zIn_fr h.1 F (by decide) (by decide), zIk_fr h.2.1 F (by decide) (by decide), ?_, zIh_fr h.2.2.2 F (by decide) (by decide)⟩
      have a4 : υ.1 13 = 0 := (f2.1 13 (by decide)).trans a1
      exact ⟨by omega, by omega, by omega, fun k hk => absurd hk (by omega)⟩
    · rw [f.2 14 (by decide), ez] at e2
      exact absurd e2 (by omega)
  · have hy2 : zYn (τ.2 12) C law least draw l p := by rw [f.2 12 (by decide)]; exact hy
    refine y_fence (d := d + 2) (T := T) hg hy2 (by rw [f.2 14 (by decide)]; exact hty) ((f.1 23 (by decide)).trans (by omega)) hT1 (fun υ e2 f2 a3 => ?_) (fun υ e2 f2 a3 a5 => ?_)
    · rw [f.2 14 (by decide), ez] at e2
      exact absurd e2 (by omega)
    · rw [f.2 14 (by decide), ez] at e2 a5 ⊢
      have F : zfr [0, 2, 13, 23] [0, 2, 12, 18] σ υ := zfr_tr f f2 (by decide) (by decide)
      have hok := zrt_ok (C := C) (t := σ.2 6) T 0 [] (by decide) (fun x hx => absurd hx List.not_mem_nil) e
      have a4 : υ.1 13 = 0 := (f2.1 13 (by decide)).trans a1
      exact ⟨⟨_, rfl, rfl⟩, ⟨C, law, least, draw, (zrt C (σ.2 6) T 0 []).2, p, ⟨hg.1, hg.2.1, hok.2.1, hok.2.2, hg.2.2.2.2⟩, ⟨zrl_fr hx.1 F (by decide), zis_fr a2 f2 (by decide) (by decide), zpr_fr hx.2.2.1 F (by decide), (F.1 10 (by decide)).trans hx.2.2.2⟩, a5⟩, zIk_fr h.2.1 F (by decide) (by decide), ⟨by omega, by omega, by omega, fun k hk => absurd hk (by omega)⟩, zIh_fr h.2.2.2 F (by decide) (by decide)⟩
