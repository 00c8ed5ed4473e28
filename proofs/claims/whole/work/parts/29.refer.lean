/-! the reference: like stretches, ends, faults -/
theorem zcnt_left {f : Nat → Int} {c : Int} {s : Nat} : ∀ m, zcnt f c s (m + 1) = (if f s = c then 1 else 0) + zcnt f c (s + 1) m
  | 0 => by simp [zcnt]
  | m + 1 => by
    have ih := zcnt_left (f := f) (c := c) (s := s) m
    rw [zcnt, ih, zcnt, show s + 1 + m = s + (m + 1) by omega]
    omega
theorem zanyb_4 {f : Nat → Int} {n len : Nat} {g : Nat → Int} (h : ∀ c : Nat, c < 4 → g c = (zcnt f c (n - len) len : Int) - (zcnt f c (n - len - len) len : Int)) : zanyb f n len = true ↔ g 0 = 0 ∧ g 1 = 0 ∧ g 2 = 0 ∧ g 3 = 0 := by
  unfold zanyb
  rw [List.all_eq_true, h 0 (by decide), h 1 (by decide), h 2 (by decide), h 3 (by decide), show n - len - len = n - 2 * len by omega]
  constructor
  · intro q
    have q0 := of_decide_eq_true (q 0 (by decide))
    have q1 := of_decide_eq_true (q 1 (by decide))
    have q2 := of_decide_eq_true (q 2 (by decide))
    have q3 := of_decide_eq_true (q 3 (by decide))
    rw [q0, q1, q2, q3]
    omega
  · intro ⟨q0, q1, q2, q3⟩ c hc
    have hc := List.mem_range.mp hc
    apply decide_eq_true
    match c, hc with
    | 0, _ => omega
    | 1, _ => omega
    | 2, _ => omega
    | 3, _ => omega
theorem t_isLike {d : Nat} {σ : zM} {K : zM → Option zV → Prop} {law : Int} {en len : Nat} (h12 : σ.2 12 1 = law) (h2 : 2 * len ≤ en) (hen : en ≤ 80) (hc : ∀ k, en - 2 * len ≤ k → k < en → 0 ≤ σ.2 18 k ∧ σ.2 18 k < 4) (q1 : ∀ τ, zfr [] [19] σ τ → K τ (some (vI (zb1 (zlike law (σ.2 18) en len))))) : zC (d + 1) 79 [vR (27), vI (en), vI (len)] σ K := by
  refine zC_in rfl ?_
  have lp1 : ∀ (n : Nat) (k : Int), K σ (some (vI 0)) → zG (d) 79 K 0 zfx (15, [vR (27), vI (en), vI (len), vI (0), vI (k)], [], σ) := by
    intro n
    induction n using Nat.strongRecOn with
    | _ n ih =>
    intro k hq
    refine r_iload k_79_15 rfl ?_
    refine r_iload k_79_17 rfl ?_
    refine r_ic_gt k_79_18 (fun h18 => ?_) (fun h18 => ?_)
    · skip
      refine r_iload k_79_60 rfl ?_
      refine r_zret k_79_61 (by omega) ?_
      exact hq
    · skip
      refine r_iload k_79_21 rfl ?_
      refine r_if_eq k_79_22 (fun _ => ?_) (fun hz => absurd hz (by decide))
      refine r_iload k_79_60 rfl ?_
      refine r_zret k_79_61 (by omega) ?_
      exact hq
  have lp0 : ∀ (n : Nat) (k : Nat), law ≠ 2 → len + 1 - k = n → 1 ≤ k → k ≤ len + 1 → (∀ j, 1 ≤ j → j < k → σ.2 18 (en - j) = σ.2 18 (en - j - len)) → zG (d) 79 K 0 zfx (15, [vR (27), vI (en), vI (len), vI (1), vI ((k : Int))], [], σ) := by
    intro n
    induction n using Nat.strongRecOn with
    | _ n ih =>
    intro k hl hn g1 g2 hi
    refine r_iload k_79_15 rfl ?_
    refine r_iload k_79_17 rfl ?_
    refine r_ic_gt k_79_18 (fun h18 => ?_) (fun h18 => ?_)
    · skip
      refine r_iload k_79_60 rfl ?_
      refine r_zret k_79_61 (by omega) ?_
      exact zKt (q1 σ zfr_rf) (by rw [zlike_n hl, zeqb_t h2]; exact fun j g1 g2 => by have := hi (en - j) (by omega) (by omega); rw [show en - (en - j) = j by omega] at this; exact this)
    · skip
      refine r_iload k_79_21 rfl ?_
      refine r_if_eq k_79_22 (fun hz => absurd hz (by decide)) (fun _ => ?_)
      refine r_aload k_79_25 rfl ?_
      refine r_getR (q := 34) k_79_26 ⟨rfl, rfl⟩ ?_
      refine r_iload k_79_29 rfl ?_
      refine r_iload k_79_30 rfl ?_
      refine r_bin (v := en - ((k : Int))) k_79_32 (zb_sub ⟨by omega, by omega⟩) ?_
      refine r_iald (v := (σ.2 18 (en - k))) k_79_33 ⟨rfl, rfl⟩ ⟨by omega, by omega⟩ (by rw [show (en - ((k : Int)) : Int).toNat = en - k by omega]) ?_
      refine r_aload k_79_34 rfl ?_
      refine r_getR (q := 34) k_79_35 ⟨rfl, rfl⟩ ?_
      refine r_iload k_79_38 rfl ?_
      refine r_iload k_79_39 rfl ?_
      refine r_bin (v := en - ((k : Int))) k_79_41 (zb_sub ⟨by omega, by omega⟩) ?_
      refine r_iload k_79_42 rfl ?_
      refine r_bin (v := en - ((k : Int)) - len) k_79_43 (zb_sub ⟨by omega, by omega⟩) ?_
      refine r_iald (v := (σ.2 18 (en - k - len))) k_79_44 ⟨rfl, rfl⟩ ⟨by omega, by omega⟩ (by rw [show (en - ((k : Int)) - len : Int).toNat = en - k - len by omega]) ?_
      refine r_ic_ne k_79_45 (fun h45 => ?_) (fun h45 => ?_)
      · skip
        refine r_const k_79_52 ?_
        refine r_istore (L' := [vR (27), vI (en), vI (len), vI (0), vI ((k : Int))]) k_79_53 rfl ?_
        refine r_iinc (v := (k : Int) + 1) (L' := [vR (27), vI (en), vI (len), vI (0), vI ((k : Int) + 1)]) k_79_54 rfl (zb_add ⟨by omega, by omega⟩) rfl ?_
        refine r_goto k_79_57 ?_
        exact lp1 0 _ (zKf (q1 σ zfr_rf) (by rw [zlike_n hl]; exact zeqb_f h2 (k := en - k) (by omega) (by omega) h45))
      · skip
        refine r_const k_79_48 ?_
        refine r_goto k_79_49 ?_
        refine r_istore (L' := [vR (27), vI (en), vI (len), vI (1), vI ((k : Int))]) k_79_53 rfl ?_
        refine r_iinc (v := (k : Int) + 1) (L' := [vR (27), vI (en), vI (len), vI (1), vI ((k : Int) + 1)]) k_79_54 rfl (zb_add ⟨by omega, by omega⟩) rfl ?_
        refine r_goto k_79_57 ?_
        exact ih _ (by omega) (k + 1) hl rfl (by omega) (by omega) (fun j g1 g2 => by
          by_cases hj : j = k
          · subst hj; exact h45
          · exact hi j g1 (by omega))
  have lpB : ∀ (n : Nat) (k : Nat) (τ : zM), law = 2 → len - k = n → k ≤ len → zfr [] [19] σ τ → (∀ c : Nat, c < 4 → τ.2 19 c = (zcnt (σ.2 18) c (en - k) k : Int) - (zcnt (σ.2 18) c (en - len - k) k : Int)) → zG (d) 79 K 0 zfx (84, [vR (27), vI (en), vI (len), vI (((k + 1 : Nat) : Int)), vU], [], τ) := by
    intro n
    induction n using Nat.strongRecOn with
    | _ n ih =>
    intro k τ hl hn g1 hf hv
    obtain ⟨x, hx⟩ : ∃ x, x = σ.2 18 (en - (k + 1)) := ⟨_, rfl⟩
    obtain ⟨y, hy⟩ : ∃ y, y = σ.2 18 (en - (k + 1) - len) := ⟨_, rfl⟩
    have hxb : k < len → 0 ≤ x ∧ x < 4 := fun q => by rw [hx]; exact hc _ (by omega) (by omega)
    have hyb : k < len → 0 ≤ y ∧ y < 4 := fun q => by rw [hy]; exact hc _ (by omega) (by omega)
    have hmb : ∀ j : Nat, j < 4 → -100 ≤ τ.2 19 j ∧ τ.2 19 j ≤ 100 := fun j hj => by
      have e1 := zcnt_le (σ.2 18) j (en - k) k
      have e2 := zcnt_le (σ.2 18) j (en - len - k) k
      rw [hv j hj]; omega
    obtain ⟨a, ha⟩ : ∃ a, a = τ.2 19 x.toNat := ⟨_, rfl⟩
    have hab : k < len → -100 ≤ a ∧ a ≤ 100 := fun q => by rw [ha]; exact hmb _ (by have := hxb q; omega)
    obtain ⟨b, hb⟩ : ∃ b, b = zup (τ.2 19) x.toNat (a + 1) y.toNat := ⟨_, rfl⟩
    have hbb : k < len → -101 ≤ b ∧ b ≤ 101 := fun q => by
      rw [hb]; unfold zup; split
      · have := hab q; omega
      · have := hmb y.toNat (by have := hyb q; omega); omega
    refine r_iload k_79_84 rfl ?_
    refine r_iload k_79_85 rfl ?_
    refine r_ic_gt k_79_86 (fun h86 => ?_) (fun h86 => ?_)
    · skip
      refine r_aload k_79_131 rfl ?_
      refine r_getR (q := 35) k_79_132 ⟨rfl, rfl⟩ ?_
      refine r_const k_79_135 ?_
      refine r_iald (v := τ.2 19 0) k_79_136 ⟨rfl, rfl⟩ ⟨by decide, by decide⟩ rfl ?_
      refine r_if_ne k_79_137 (fun h137 => ?_) (fun h137 => ?_)
      · skip
        refine r_const k_79_171 ?_
        refine r_zret k_79_172 (by omega) ?_
        have hk : k = len := by omega
        subst hk
        have h4 := zanyb_4 (f := σ.2 18) (n := en) (len := k) (g := τ.2 19) hv
        exact zKf (q1 τ hf) (by rw [zlike_2 hl]; cases hb : zanyb (σ.2 18) en k with | false => rfl | true => exact absurd (h4.mp hb).1 h137)
      · skip
        refine r_aload k_79_140 rfl ?_
        refine r_getR (q := 35) k_79_141 ⟨rfl, rfl⟩ ?_
        refine r_const k_79_144 ?_
        refine r_iald (v := τ.2 19 1) k_79_145 ⟨rfl, rfl⟩ ⟨by decide, by decide⟩ rfl ?_
        refine r_if_ne k_79_146 (fun h146 => ?_) (fun h146 => ?_)
        · skip
          refine r_const k_79_171 ?_
          refine r_zret k_79_172 (by omega) ?_
          have hk : k = len := by omega
          subst hk
          have h4 := zanyb_4 (f := σ.2 18) (n := en) (len := k) (g := τ.2 19) hv
          exact zKf (q1 τ hf) (by rw [zlike_2 hl]; cases hb : zanyb (σ.2 18) en k with | false => rfl | true => exact absurd (h4.mp hb).2.1 h146)
        · skip
          refine r_aload k_79_149 rfl ?_
          refine r_getR (q := 35) k_79_150 ⟨rfl, rfl⟩ ?_
          refine r_const k_79_153 ?_
          refine r_iald (v := τ.2 19 2) k_79_154 ⟨rfl, rfl⟩ ⟨by decide, by decide⟩ rfl ?_
          refine r_if_ne k_79_155 (fun h155 => ?_) (fun h155 => ?_)
          · skip
            refine r_const k_79_171 ?_
            refine r_zret k_79_172 (by omega) ?_
            have hk : k = len := by omega
            subst hk
            have h4 := zanyb_4 (f := σ.2 18) (n := en) (len := k) (g := τ.2 19) hv
            exact zKf (q1 τ hf) (by rw [zlike_2 hl]; cases hb : zanyb (σ.2 18) en k with | false => rfl | true => exact absurd (h4.mp hb).2.2.1 h155)
          · skip
            refine r_aload k_79_158 rfl ?_
            refine r_getR (q := 35) k_79_159 ⟨rfl, rfl⟩ ?_
            refine r_const k_79_162 ?_
            refine r_iald (v := τ.2 19 3) k_79_163 ⟨rfl, rfl⟩ ⟨by decide, by decide⟩ rfl ?_
            refine r_if_ne k_79_164 (fun h164 => ?_) (fun h164 => ?_)
            · skip
              refine r_const k_79_171 ?_
              refine r_zret k_79_172 (by omega) ?_
              have hk : k = len := by omega
              subst hk
              have h4 := zanyb_4 (f := σ.2 18) (n := en) (len := k) (g := τ.2 19) hv
              exact zKf (q1 τ hf) (by rw [zlike_2 hl]; cases hb : zanyb (σ.2 18) en k with | false => rfl | true => exact absurd (h4.mp hb).2.2.2 h164)
            · skip
              refine r_const k_79_167 ?_
              refine r_goto k_79_168 ?_
              refine r_zret k_79_172 (by omega) ?_
              have hk : k = len := by omega
              subst hk
              have h4 := zanyb_4 (f := σ.2 18) (n := en) (len := k) (g := τ.2 19) hv
              exact zKt (q1 τ hf) (by rw [zlike_2 hl, h4]; exact ⟨h137, h146, h155, h164⟩)
    · skip
      refine r_aload k_79_89 rfl ?_
      refine r_getR (q := 35) k_79_90 ⟨rfl, rfl⟩ ?_
      refine r_aload k_79_93 rfl ?_
      refine r_getR (q := 34) k_79_94 ⟨rfl, rfl⟩ ?_
      refine r_iload k_79_97 rfl ?_
      refine r_iload k_79_98 rfl ?_
      refine r_bin (v := en - (((k + 1 : Nat) : Int))) k_79_99 (zb_sub ⟨by omega, by omega⟩) ?_
      refine r_iald (v := x) k_79_100 ⟨rfl, rfl⟩ ⟨by omega, by omega⟩ (by rw [show (en - (((k + 1 : Nat) : Int)) : Int).toNat = en - (k + 1) by omega, hf.2 18 (by decide)]; exact hx.symm) ?_
      refine r_dup2 k_79_101 ?_
      refine r_iald (v := a) k_79_102 ⟨rfl, rfl⟩ ⟨(hxb (by omega)).1, (hxb (by omega)).2⟩ ha.symm ?_
      refine r_const k_79_103 ?_
      refine r_bin (v := a + 1) k_79_104 (zb_add ⟨by omega, by omega⟩) ?_
      refine r_iast k_79_105 ⟨rfl, rfl⟩ ⟨(hxb (by omega)).1, (hxb (by omega)).2⟩ ?_
      refine r_aload k_79_106 rfl ?_
      refine r_getR (q := 35) k_79_107 ⟨rfl, rfl⟩ ?_
      refine r_aload k_79_110 rfl ?_
      refine r_getR (q := 34) k_79_111 ⟨rfl, rfl⟩ ?_
      refine r_iload k_79_114 rfl ?_
      refine r_iload k_79_115 rfl ?_
      refine r_bin (v := en - (((k + 1 : Nat) : Int))) k_79_116 (zb_sub ⟨by omega, by omega⟩) ?_
      refine r_iload k_79_117 rfl ?_
      refine r_bin (v := en - (((k + 1 : Nat) : Int)) - len) k_79_118 (zb_sub ⟨by omega, by omega⟩) ?_
      refine r_iald (v := y) k_79_119 ⟨rfl, rfl⟩ ⟨by omega, by omega⟩ (by rw [show (en - (((k + 1 : Nat) : Int)) - len : Int).toNat = en - (k + 1) - len by omega, zA_n (by decide), hf.2 18 (by decide)]; exact hy.symm) ?_
      refine r_dup2 k_79_120 ?_
      refine r_iald (v := b) k_79_121 ⟨rfl, rfl⟩ ⟨(hyb (by omega)).1, (hyb (by omega)).2⟩ (by rw [zA_2]; exact hb.symm) ?_
      refine r_const k_79_122 ?_
      refine r_bin (v := b - 1) k_79_123 (zb_sub ⟨by omega, by omega⟩) ?_
      refine r_iast k_79_124 ⟨rfl, rfl⟩ ⟨(hyb (by omega)).1, (hyb (by omega)).2⟩ ?_
      refine r_iinc (v := ((k + 1 : Nat) : Int) + 1) (L' := [vR (27), vI (en), vI (len), vI (((k + 1 : Nat) : Int) + 1), vU]) k_79_125 rfl (zb_add ⟨by omega, by omega⟩) rfl ?_
      refine r_goto k_79_128 ?_
      refine ih _ (by omega) (k + 1) _ hl rfl (by omega) (zfr_A (zfr_A hf (by decide)) (by decide)) (fun c hc4 => ?_)
      have hk : k < len := by omega
      have hxb := hxb hk
      have hyb := hyb hk
      rw [zcnt_left, zcnt_left, show en - (k + 1) + 1 = en - k by omega, show en - len - (k + 1) + 1 = en - len - k by omega, show en - len - (k + 1) = en - (k + 1) - len by omega, ← hx, ← hy]
      have hvc := hv c hc4
      rw [zA_2]
      unfold zup at hb ⊢
      rw [zA_2]
      by_cases q1 : c = y.toNat
      · rw [if_pos q1, if_pos (show y = (c : Int) by omega), hb]
        by_cases q2 : y.toNat = x.toNat
        · rw [if_pos q2, if_pos (show x = (c : Int) by omega), ha, ← q2, ← q1, hvc]; omega
        · rw [if_neg q2, if_neg (show ¬ x = (c : Int) by omega), ← q1, hvc]; omega
      · rw [if_neg q1, if_neg (show ¬ y = (c : Int) by omega)]
        by_cases q2 : c = x.toNat
        · rw [if_pos q2, if_pos (show x = (c : Int) by omega), ha, ← q2, hvc]; omega
        · rw [if_neg q2, if_neg (show ¬ x = (c : Int) by omega), hvc]; omega
  have lpA : ∀ (n : Nat) (c : Nat) (τ : zM), law = 2 → 4 - c = n → c ≤ 4 → zfr [] [19] σ τ → (∀ j : Nat, j < c → τ.2 19 j = 0) → zG (d) 79 K 0 zfx (64, [vR (27), vI (en), vI (len), vI ((c : Int)), vU], [], τ) := by
    intro n
    induction n using Nat.strongRecOn with
    | _ n ih =>
    intro c τ hl hn g1 hf ha
    refine r_iload k_79_64 rfl ?_
    refine r_const k_79_65 ?_
    refine r_ic_ge k_79_66 (fun h66 => ?_) (fun h66 => ?_)
    · skip
      refine r_const k_79_82 ?_
      refine r_istore (L' := [vR (27), vI (en), vI (len), vI (1), vU]) k_79_83 rfl ?_
      exact lpB _ 0 _ hl rfl (by omega) hf (fun j hj => by rw [ha j (by omega)]; simp [zcnt])
    · skip
      refine r_aload k_79_69 rfl ?_
      refine r_getR (q := 35) k_79_70 ⟨rfl, rfl⟩ ?_
      refine r_iload k_79_73 rfl ?_
      refine r_const k_79_74 ?_
      refine r_iast k_79_75 ⟨rfl, rfl⟩ ⟨by omega, by omega⟩ ?_
      refine r_iinc (v := (c : Int) + 1) (L' := [vR (27), vI (en), vI (len), vI ((c : Int) + 1), vU]) k_79_76 rfl (zb_add ⟨by omega, by omega⟩) rfl ?_
      refine r_goto k_79_79 ?_
      refine ih _ (by omega) (c + 1) _ hl rfl (by omega) (zfr_A hf (by decide)) (fun j hj => ?_)
      rw [zA_2, show ((c : Nat) : Int).toNat = c by omega]
      by_cases hjc : j = c
      · subst hjc; exact zup_1 _ _ _
      · rw [zup_n hjc]; exact ha j (by omega)
  show zG (d) 79 K 0 zfx (0, [vR (27), vI (en), vI (len), vU, vU], [], σ)
  refine r_aload k_79_0 rfl ?_
  refine r_getR (q := 28) k_79_1 ⟨rfl, rfl⟩ ?_
  refine r_const k_79_4 ?_
  refine r_iald (v := law) k_79_5 ⟨rfl, rfl⟩ ⟨by decide, by decide⟩ h12 ?_
  refine r_const k_79_6 ?_
  refine r_ic_eq k_79_7 (fun h7 => ?_) (fun h7 => ?_)
  · skip
    refine r_const k_79_62 ?_
    refine r_istore (L' := [vR (27), vI (en), vI (len), vI (0), vU]) k_79_63 rfl ?_
    exact lpA _ 0 σ (by omega) rfl (by omega) zfr_rf (fun j hj => by omega)
  · skip
    refine r_const k_79_10 ?_
    refine r_istore (L' := [vR (27), vI (en), vI (len), vI (1), vU]) k_79_11 rfl ?_
    refine r_const k_79_12 ?_
    refine r_istore (L' := [vR (27), vI (en), vI (len), vI (1), vI (1)]) k_79_13 rfl ?_
    exact lp0 _ 1 (by omega) rfl (by omega) (by omega) (fun j g1 g2 => by omega)
