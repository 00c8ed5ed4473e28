/-! copy: the two alike -/
def zca (la lb na nb i j n : Int) : Int := if la = -1 ∨ lb = -1 then -11 else if na ≠ nb then -12 else if (0 ≤ i ∧ 0 ≤ j) ∧ 0 ≤ n ∧ i + n ≤ la ∧ j + n ≤ lb then 0 else -13
theorem zca_0 {la lb na nb i j n : Int} (h : zca la lb na nb i j n = 0) : na = nb ∧ (0 ≤ i ∧ 0 ≤ j) ∧ 0 ≤ n ∧ i + n ≤ la ∧ j + n ≤ lb := by
  unfold zca at h
  split at h
  · omega
  · split at h
    · omega
    · split at h <;> omega
theorem x_copy {d : Nat} {σ : zM} {K : zM → Option zV → Prop} (hI : zIh σ) {fr i to j n : Int} (q1 : ¬ ((0 ≤ fr ∧ fr < 4) ∧ 0 ≤ to ∧ to < 4) → K σ (some (vI (-1)))) (q2 : ∀ s t : Nat, fr = s → to = t → s < 4 → t < 4 → (zca (σ.1 (15 + 2 * s)) (σ.1 (15 + 2 * t)) (σ.1 (14 + 2 * s)) (σ.1 (14 + 2 * t)) i j n) ≠ 0 → K σ (some (vI (zca (σ.1 (15 + 2 * s)) (σ.1 (15 + 2 * t)) (σ.1 (14 + 2 * s)) (σ.1 (14 + 2 * t)) i j n)))) (q3 : ∀ s t : Nat, fr = s → to = t → s < 4 → t < 4 → (zca (σ.1 (15 + 2 * s)) (σ.1 (15 + 2 * t)) (σ.1 (14 + 2 * s)) (σ.1 (14 + 2 * t)) i j n) = 0 → K (zsetA σ (7 + t) (zcpy (σ.2 (7 + s)) (σ.2 (7 + t)) i.toNat j.toNat n.toNat)) (some (vI n))) : zC (d + 1 + 1) 73 [vR (0), vI (fr), vI (i), vI (to), vI (j), vI (n)] σ K := by
  refine zC_in rfl ?_
  show zG (d + 1) 73 K 0 zfx (0, [vR (0), vI (fr), vI (i), vI (to), vI (j), vI (n), vU, vU], [], σ)
  refine r_aload k_73_0 rfl ?_
  refine r_iload k_73_1 rfl ?_
  refine r_call (as := [vR (0), vI (fr)]) (r := []) k_73_2 rfl rfl rfl ?_
  refine s_page (fun s e2 hs => ?_) (fun g2 => ?_)
  · skip
    obtain ⟨b1, b2, b3, b4, b5⟩ := hI s hs
    refine r_astore (L' := [vR (0), vI (fr), vI (i), vI (to), vI (j), vI (n), vR (zshp s), vU]) k_73_5 rfl ?_
    refine r_aload k_73_7 rfl ?_
    refine r_iload k_73_8 rfl ?_
    refine r_call (as := [vR (0), vI (to)]) (r := []) k_73_9 rfl rfl rfl ?_
    refine s_page (fun t e9 ht => ?_) (fun g9 => ?_)
    · skip
      obtain ⟨c1, c2, c3, c4, c5⟩ := hI t ht
      refine r_astore (L' := [vR (0), vI (fr), vI (i), vI (to), vI (j), vI (n), vR (zshp s), vR (zshp t)]) k_73_12 rfl ?_
      refine r_aload k_73_14 rfl ?_
      refine r_null k_73_16 ?_
      refine r_aload k_73_19 rfl ?_
      refine r_nonnull k_73_21 ?_
      refine r_aload k_73_26 rfl ?_
      refine r_getS (v := σ.1 ((15 + 2 * s))) k_73_28 (zsh_2 hs) rfl ?_
      refine r_const k_73_31 ?_
      refine r_ic_eq k_73_32 (fun h32 => ?_) (fun h32 => ?_)
      · skip
        refine r_const k_73_44 ?_
        refine r_iret k_73_46 ?_
        have e : (zca (σ.1 (15 + 2 * s)) (σ.1 (15 + 2 * t)) (σ.1 (14 + 2 * s)) (σ.1 (14 + 2 * t)) i j n) = -11 := by unfold zca; (repeat' split) <;> omega
        exact zKe (q2 s t (by omega) (by omega) hs ht (by omega)) e
      · skip
        refine r_aload k_73_35 rfl ?_
        refine r_getS (v := σ.1 ((15 + 2 * t))) k_73_37 (zsh_2 ht) rfl ?_
        refine r_const k_73_40 ?_
        refine r_ic_ne k_73_41 (fun h41 => ?_) (fun h41 => ?_)
        · skip
          refine r_aload k_73_47 rfl ?_
          refine r_getS (v := σ.1 ((14 + 2 * s))) k_73_49 (zsh_1 hs) rfl ?_
          refine r_aload k_73_52 rfl ?_
          refine r_getS (v := σ.1 ((14 + 2 * t))) k_73_54 (zsh_1 ht) rfl ?_
          refine r_ic_eq k_73_57 (fun h57 => ?_) (fun h57 => ?_)
          · skip
            refine r_aload k_73_63 rfl ?_
            refine r_iload k_73_65 rfl ?_
            refine r_iload k_73_66 rfl ?_
            refine r_call (as := [vR (zshp s), vI (i), vI (n)]) (r := []) k_73_68 rfl (zrcv_o rfl (zsh_c hs)) rfl ?_
            refine s_reach hs b1 (fun g68 => ?_) (fun g68 => ?_)
            · skip
              refine r_if_eq k_73_71 (fun hz => absurd hz (by decide)) (fun _ => ?_)
              refine r_aload k_73_74 rfl ?_
              refine r_iload k_73_76 rfl ?_
              refine r_iload k_73_78 rfl ?_
              refine r_call (as := [vR (zshp t), vI (j), vI (n)]) (r := []) k_73_80 rfl (zrcv_o rfl (zsh_c ht)) rfl ?_
              refine s_reach ht c1 (fun g80 => ?_) (fun g80 => ?_)
              · skip
                refine r_if_ne k_73_83 (fun _ => ?_) (fun hz => absurd hz (by decide))
                refine r_aload k_73_89 rfl ?_
                refine r_getR (q := zit s) k_73_91 (zsh_0 hs) ?_
                refine r_iload k_73_94 rfl ?_
                refine r_aload k_73_95 rfl ?_
                refine r_getR (q := zit t) k_73_97 (zsh_0 ht) ?_
                refine r_iload k_73_100 rfl ?_
                refine r_iload k_73_102 rfl ?_
                refine r_acopy k_73_104 (zit_a ht) (zit_a hs) ⟨by omega, by omega, by omega⟩ ⟨by omega, by omega⟩ ?_
                refine r_iload k_73_107 rfl ?_
                refine r_iret k_73_109 ?_
                exact q3 s t (by omega) (by omega) hs ht (by unfold zca; (repeat' split) <;> omega)
              · skip
                refine r_if_ne k_73_83 (fun hz => absurd hz (by decide)) (fun _ => ?_)
                refine r_const k_73_86 ?_
                refine r_iret k_73_88 ?_
                have e : (zca (σ.1 (15 + 2 * s)) (σ.1 (15 + 2 * t)) (σ.1 (14 + 2 * s)) (σ.1 (14 + 2 * t)) i j n) = -13 := by unfold zca; (repeat' split) <;> omega
                exact zKe (q2 s t (by omega) (by omega) hs ht (by omega)) e
            · skip
              refine r_if_eq k_73_71 (fun _ => ?_) (fun hz => absurd hz (by decide))
              refine r_const k_73_86 ?_
              refine r_iret k_73_88 ?_
              have e : (zca (σ.1 (15 + 2 * s)) (σ.1 (15 + 2 * t)) (σ.1 (14 + 2 * s)) (σ.1 (14 + 2 * t)) i j n) = -13 := by unfold zca; (repeat' split) <;> omega
              exact zKe (q2 s t (by omega) (by omega) hs ht (by omega)) e
          · skip
            refine r_const k_73_60 ?_
            refine r_iret k_73_62 ?_
            have e : (zca (σ.1 (15 + 2 * s)) (σ.1 (15 + 2 * t)) (σ.1 (14 + 2 * s)) (σ.1 (14 + 2 * t)) i j n) = -12 := by unfold zca; (repeat' split) <;> omega
            exact zKe (q2 s t (by omega) (by omega) hs ht (by omega)) e
        · skip
          refine r_const k_73_44 ?_
          refine r_iret k_73_46 ?_
          have e : (zca (σ.1 (15 + 2 * s)) (σ.1 (15 + 2 * t)) (σ.1 (14 + 2 * s)) (σ.1 (14 + 2 * t)) i j n) = -11 := by unfold zca; (repeat' split) <;> omega
          exact zKe (q2 s t (by omega) (by omega) hs ht (by omega)) e
    · skip
      refine r_astoreN (L' := [vR (0), vI (fr), vI (i), vI (to), vI (j), vI (n), vR (zshp s), vN]) k_73_12 rfl ?_
      refine r_aload k_73_14 rfl ?_
      refine r_null k_73_16 ?_
      refine r_aloadN k_73_19 rfl ?_
      refine r_nonnullN k_73_21 ?_
      refine r_const k_73_24 ?_
      refine r_iret k_73_25 ?_
      exact q1 (by omega)
  · skip
    refine r_astoreN (L' := [vR (0), vI (fr), vI (i), vI (to), vI (j), vI (n), vN, vU]) k_73_5 rfl ?_
    refine r_aload k_73_7 rfl ?_
    refine r_iload k_73_8 rfl ?_
    refine r_call (as := [vR (0), vI (to)]) (r := []) k_73_9 rfl rfl rfl ?_
    refine s_page (fun t e9 ht => ?_) (fun g9 => ?_)
    · skip
      obtain ⟨c1, c2, c3, c4, c5⟩ := hI t ht
      refine r_astore (L' := [vR (0), vI (fr), vI (i), vI (to), vI (j), vI (n), vN, vR (zshp t)]) k_73_12 rfl ?_
      refine r_aloadN k_73_14 rfl ?_
      refine r_nullN k_73_16 ?_
      refine r_const k_73_24 ?_
      refine r_iret k_73_25 ?_
      exact q1 (by omega)
    · skip
      refine r_astoreN (L' := [vR (0), vI (fr), vI (i), vI (to), vI (j), vI (n), vN, vN]) k_73_12 rfl ?_
      refine r_aloadN k_73_14 rfl ?_
      refine r_nullN k_73_16 ?_
      refine r_const k_73_24 ?_
      refine r_iret k_73_25 ?_
      exact q1 (by omega)
theorem y_copy0 {d : Nat} {σ : zM} {K : zM → Option zV → Prop} {fr i to j n : Int} (hr : ¬ ((0 ≤ fr ∧ fr < 4) ∧ 0 ≤ to ∧ to < 4)) (q1 : K σ (some (vI (-1)))) : zC (d + 1 + 1) 128 [vR (27), vI (fr), vI (i), vI (to), vI (j), vI (n)] σ K := by
  refine zC_in rfl ?_
  show zG (d + 1) 128 K 0 zfx (0, [vR (27), vI (fr), vI (i), vI (to), vI (j), vI (n), vU, vU], [], σ)
  refine r_iload k_128_0 rfl ?_
  refine r_cnv (w := vL (fr)) k_128_1 rfl ?_
  refine r_lconst k_128_2 ?_
  refine r_lconst k_128_3 ?_
  refine r_call (as := [vL (fr), vL (0), vL (3)]) (r := []) k_128_6 rfl rfl rfl ?_
  refine t_in (fun g6 => ?_) (fun g6 => ?_)
  · skip
    refine r_if_eq k_128_9 (fun hz => absurd hz (by decide)) (fun _ => ?_)
    refine r_iload k_128_12 rfl ?_
    refine r_cnv (w := vL (to)) k_128_13 rfl ?_
    refine r_lconst k_128_14 ?_
    refine r_lconst k_128_15 ?_
    refine r_call (as := [vL (to), vL (0), vL (3)]) (r := []) k_128_18 rfl rfl rfl ?_
    refine t_in (fun g18 => ?_) (fun g18 => ?_)
    · skip
      refine r_if_ne k_128_21 (fun _ => ?_) (fun hz => absurd hz (by decide))
      exfalso; omega
    · skip
      refine r_if_ne k_128_21 (fun hz => absurd hz (by decide)) (fun _ => ?_)
      refine r_const k_128_24 ?_
      refine r_iret k_128_25 ?_
      exact q1
  · skip
    refine r_if_eq k_128_9 (fun _ => ?_) (fun hz => absurd hz (by decide))
    refine r_const k_128_24 ?_
    refine r_iret k_128_25 ?_
    exact q1
theorem y_copy {d : Nat} {σ : zM} {K : zM → Option zV → Prop} {s t : Nat} {i j n : Int} (hs : s < 4) (ht : t < 4) (js : -1 ≤ σ.2 15 s ∧ σ.2 15 s ≤ 48) (jt : -1 ≤ σ.2 15 t ∧ σ.2 15 t ≤ 48) (hi : -2147483648 ≤ i ∧ i < 2147483648) (hj : -2147483648 ≤ j ∧ j < 2147483648) (hn : -2147483648 ≤ n ∧ n < 2147483648) (q2 : (zca (σ.2 15 s) (σ.2 15 t) (σ.2 16 s) (σ.2 16 t) i j n) ≠ 0 → K σ (some (vI (zca (σ.2 15 s) (σ.2 15 t) (σ.2 16 s) (σ.2 16 t) i j n)))) (q3 : ∀ a b N : Nat, i = a → j = b → n = N → (zca (σ.2 15 s) (σ.2 15 t) (σ.2 16 s) (σ.2 16 t) i j n) = 0 → ∀ τ, zfr [] [17] σ τ → (∀ q, τ.2 17 q = if 48 * t + b ≤ q ∧ q < 48 * t + b + N then σ.2 17 (q - (48 * t + b) + (48 * s + a)) else σ.2 17 q) → K τ (some (vI n))) : zC (d + 1 + 1) 128 [vR (27), vI ((s : Int)), vI (i), vI ((t : Int)), vI (j), vI (n)] σ K := by
  refine zC_in rfl ?_
  have lpA : ∀ (m : Nat) (a b N k : Nat) (τ : zM), N - k = m → k ≤ N → i = a → j = b → n = N → (zca (σ.2 15 s) (σ.2 15 t) (σ.2 16 s) (σ.2 16 t) i j n) = 0 → a + N ≤ 48 → b + N ≤ 48 → a < b → zfr [] [17] σ τ → (∀ q, τ.2 17 q = if 48 * t + b + N - k ≤ q ∧ q < 48 * t + b + N then σ.2 17 (q - (48 * t + b) + (48 * s + a)) else σ.2 17 q) → zG (d + 1) 128 K 0 zfx (111, [vR (27), vI ((s : Int)), vI (i), vI ((t : Int)), vI (j), vI (n), vI ((k : Int)), vU], [], τ) := by
    intro m
    induction m using Nat.strongRecOn with
    | _ m ih =>
    intro a b N k τ hm g1 ei ej en hz0 ha48 hb48 hab hf hc
    refine r_iload k_128_111 rfl ?_
    refine r_iload k_128_113 rfl ?_
    refine r_ic_ge k_128_115 (fun h115 => ?_) (fun h115 => ?_)
    · skip
      refine r_iload k_128_173 rfl ?_
      refine r_iret k_128_175 ?_
      have hkN : k = N := by omega
      rw [hkN] at hc
      refine q3 a b N ei ej en hz0 _ hf (fun q => ?_)
      rw [hc q]
      by_cases c : 48 * t + b + N - N ≤ q ∧ q < 48 * t + b + N
      · rw [if_pos c, if_pos (by omega)]
      · rw [if_neg c, if_neg (by omega)]
    · skip
      refine r_iload k_128_118 rfl ?_
      refine r_iload k_128_120 rfl ?_
      refine r_ic_le k_128_121 (fun hz => absurd hz (by omega)) (fun _ => ?_)
      refine r_iload k_128_124 rfl ?_
      refine r_const k_128_126 ?_
      refine r_bin (v := n - 1) k_128_127 (zb_sub ⟨by omega, by omega⟩) ?_
      refine r_iload k_128_128 rfl ?_
      refine r_bin (v := n - 1 - ((k : Int))) k_128_130 (zb_sub ⟨by omega, by omega⟩) ?_
      refine r_goto k_128_131 ?_
      refine r_istore (L' := [vR (27), vI ((s : Int)), vI (i), vI ((t : Int)), vI (j), vI (n), vI ((k : Int)), vI (n - 1 - ((k : Int)))]) k_128_136 rfl ?_
      refine r_aload k_128_138 rfl ?_
      refine r_getR (q := 33) k_128_139 ⟨rfl, rfl⟩ ?_
      refine r_const k_128_142 ?_
      refine r_iload k_128_144 rfl ?_
      refine r_bin (v := 48 * ((t : Int))) k_128_145 (zb_mul ⟨by omega, by omega⟩) ?_
      refine r_iload k_128_146 rfl ?_
      refine r_bin (v := 48 * ((t : Int)) + j) k_128_148 (zb_add ⟨by omega, by omega⟩) ?_
      refine r_iload k_128_149 rfl ?_
      refine r_bin (v := 48 * ((t : Int)) + j + (n - 1 - ((k : Int)))) k_128_151 (zb_add ⟨by omega, by omega⟩) ?_
      refine r_aload k_128_152 rfl ?_
      refine r_getR (q := 33) k_128_153 ⟨rfl, rfl⟩ ?_
      refine r_const k_128_156 ?_
      refine r_iload k_128_158 rfl ?_
      refine r_bin (v := 48 * ((s : Int))) k_128_159 (zb_mul ⟨by omega, by omega⟩) ?_
      refine r_iload k_128_160 rfl ?_
      refine r_bin (v := 48 * ((s : Int)) + i) k_128_161 (zb_add ⟨by omega, by omega⟩) ?_
      refine r_iload k_128_162 rfl ?_
      refine r_bin (v := 48 * ((s : Int)) + i + (n - 1 - ((k : Int)))) k_128_164 (zb_add ⟨by omega, by omega⟩) ?_
      refine r_iald (v := (σ.2 17 (48 * s + a + (N - 1 - k)))) k_128_165 ⟨rfl, rfl⟩ ⟨by omega, by omega⟩ (by rw [show (48 * ((s : Int)) + i + (n - 1 - ((k : Int))) : Int).toNat = 48 * s + a + (N - 1 - k) by omega, hc, if_neg (by omega)]) ?_
      refine r_iast k_128_166 ⟨rfl, rfl⟩ ⟨by omega, by omega⟩ ?_
      refine r_iinc (v := (k : Int) + 1) (L' := [vR (27), vI ((s : Int)), vI (i), vI ((t : Int)), vI (j), vI (n), vI ((k : Int) + 1), vI (n - 1 - ((k : Int)))]) k_128_167 rfl (zb_add ⟨by omega, by omega⟩) rfl ?_
      refine r_goto k_128_170 ?_
      refine r_cut (L' := [vR (27), vI ((s : Int)), vI (i), vI ((t : Int)), vI (j), vI (n), vI ((k : Int) + 1), vU]) 7 rfl ?_
      have ew : (48 * (t : Int) + j + (n - 1 - ((k : Int)))).toNat = 48 * t + b + (N - 1 - k) := by omega
      rw [ew]
      refine ih _ (by omega) a b N (k + 1) _ rfl (by omega) ei ej en hz0 ha48 hb48 hab (zfr_A hf (by decide)) (fun q => ?_)
      rw [zA_2]
      by_cases e : q = 48 * t + b + (N - 1 - k)
      · subst e; rw [zup_1, if_pos (by omega)]; exact congrArg (σ.2 17) (by omega)
      · rw [zup_n e, hc q]
        by_cases c : 48 * t + b + N - k ≤ q ∧ q < 48 * t + b + N
        · rw [if_pos c, if_pos (by omega)]
        · rw [if_neg c, if_neg (by omega)]
  have lpB : ∀ (m : Nat) (a b N k : Nat) (τ : zM), N - k = m → k ≤ N → i = a → j = b → n = N → (zca (σ.2 15 s) (σ.2 15 t) (σ.2 16 s) (σ.2 16 t) i j n) = 0 → a + N ≤ 48 → b + N ≤ 48 → b ≤ a → zfr [] [17] σ τ → (∀ q, τ.2 17 q = if 48 * t + b ≤ q ∧ q < 48 * t + b + k then σ.2 17 (q - (48 * t + b) + (48 * s + a)) else σ.2 17 q) → zG (d + 1) 128 K 0 zfx (111, [vR (27), vI ((s : Int)), vI (i), vI ((t : Int)), vI (j), vI (n), vI ((k : Int)), vU], [], τ) := by
    intro m
    induction m using Nat.strongRecOn with
    | _ m ih =>
    intro a b N k τ hm g1 ei ej en hz0 ha48 hb48 hab hf hc
    refine r_iload k_128_111 rfl ?_
    refine r_iload k_128_113 rfl ?_
    refine r_ic_ge k_128_115 (fun h115 => ?_) (fun h115 => ?_)
    · skip
      refine r_iload k_128_173 rfl ?_
      refine r_iret k_128_175 ?_
      have hkN : k = N := by omega
      rw [hkN] at hc
      exact q3 a b N ei ej en hz0 _ hf hc
    · skip
      refine r_iload k_128_118 rfl ?_
      refine r_iload k_128_120 rfl ?_
      refine r_ic_le k_128_121 (fun _ => ?_) (fun hz => absurd hz (by omega))
      refine r_iload k_128_134 rfl ?_
      refine r_istore (L' := [vR (27), vI ((s : Int)), vI (i), vI ((t : Int)), vI (j), vI (n), vI ((k : Int)), vI ((k : Int))]) k_128_136 rfl ?_
      refine r_aload k_128_138 rfl ?_
      refine r_getR (q := 33) k_128_139 ⟨rfl, rfl⟩ ?_
      refine r_const k_128_142 ?_
      refine r_iload k_128_144 rfl ?_
      refine r_bin (v := 48 * ((t : Int))) k_128_145 (zb_mul ⟨by omega, by omega⟩) ?_
      refine r_iload k_128_146 rfl ?_
      refine r_bin (v := 48 * ((t : Int)) + j) k_128_148 (zb_add ⟨by omega, by omega⟩) ?_
      refine r_iload k_128_149 rfl ?_
      refine r_bin (v := 48 * ((t : Int)) + j + ((k : Int))) k_128_151 (zb_add ⟨by omega, by omega⟩) ?_
      refine r_aload k_128_152 rfl ?_
      refine r_getR (q := 33) k_128_153 ⟨rfl, rfl⟩ ?_
      refine r_const k_128_156 ?_
      refine r_iload k_128_158 rfl ?_
      refine r_bin (v := 48 * ((s : Int))) k_128_159 (zb_mul ⟨by omega, by omega⟩) ?_
      refine r_iload k_128_160 rfl ?_
      refine r_bin (v := 48 * ((s : Int)) + i) k_128_161 (zb_add ⟨by omega, by omega⟩) ?_
      refine r_iload k_128_162 rfl ?_
      refine r_bin (v := 48 * ((s : Int)) + i + ((k : Int))) k_128_164 (zb_add ⟨by omega, by omega⟩) ?_
      refine r_iald (v := (σ.2 17 (48 * s + a + k))) k_128_165 ⟨rfl, rfl⟩ ⟨by omega, by omega⟩ (by rw [show (48 * ((s : Int)) + i + ((k : Int)) : Int).toNat = 48 * s + a + k by omega, hc, if_neg (by omega)]) ?_
      refine r_iast k_128_166 ⟨rfl, rfl⟩ ⟨by omega, by omega⟩ ?_
      refine r_iinc (v := (k : Int) + 1) (L' := [vR (27), vI ((s : Int)), vI (i), vI ((t : Int)), vI (j), vI (n), vI ((k : Int) + 1), vI ((k : Int))]) k_128_167 rfl (zb_add ⟨by omega, by omega⟩) rfl ?_
      refine r_goto k_128_170 ?_
      refine r_cut (L' := [vR (27), vI ((s : Int)), vI (i), vI ((t : Int)), vI (j), vI (n), vI ((k : Int) + 1), vU]) 7 rfl ?_
      have ew : (48 * (t : Int) + j + ((k : Int))).toNat = 48 * t + b + k := by omega
      rw [ew]
      refine ih _ (by omega) a b N (k + 1) _ rfl (by omega) ei ej en hz0 ha48 hb48 hab (zfr_A hf (by decide)) (fun q => ?_)
      rw [zA_2]
      by_cases e : q = 48 * t + b + k
      · subst e; rw [zup_1, if_pos (by omega)]; exact congrArg (σ.2 17) (by omega)
      · rw [zup_n e, hc q]
        by_cases c : 48 * t + b ≤ q ∧ q < 48 * t + b + k
        · rw [if_pos c, if_pos (by omega)]
        · rw [if_neg c, if_neg (by omega)]
  show zG (d + 1) 128 K 0 zfx (0, [vR (27), vI ((s : Int)), vI (i), vI ((t : Int)), vI (j), vI (n), vU, vU], [], σ)
  refine r_iload k_128_0 rfl ?_
  refine r_cnv (w := vL ((s : Int))) k_128_1 rfl ?_
  refine r_lconst k_128_2 ?_
  refine r_lconst k_128_3 ?_
  refine r_call (as := [vL ((s : Int)), vL (0), vL (3)]) (r := []) k_128_6 rfl rfl rfl ?_
  refine t_in (fun g6 => ?_) (fun g6 => ?_)
  · skip
    refine r_if_eq k_128_9 (fun hz => absurd hz (by decide)) (fun _ => ?_)
    refine r_iload k_128_12 rfl ?_
    refine r_cnv (w := vL ((t : Int))) k_128_13 rfl ?_
    refine r_lconst k_128_14 ?_
    refine r_lconst k_128_15 ?_
    refine r_call (as := [vL ((t : Int)), vL (0), vL (3)]) (r := []) k_128_18 rfl rfl rfl ?_
    refine t_in (fun g18 => ?_) (fun g18 => ?_)
    · skip
      refine r_if_ne k_128_21 (fun _ => ?_) (fun hz => absurd hz (by decide))
      refine r_aload k_128_26 rfl ?_
      refine r_getR (q := 31) k_128_27 ⟨rfl, rfl⟩ ?_
      refine r_iload k_128_30 rfl ?_
      refine r_iald (v := (σ.2 15 s)) k_128_31 ⟨rfl, rfl⟩ ⟨by omega, by omega⟩ rfl ?_
      refine r_if_lt k_128_32 (fun h32 => ?_) (fun h32 => ?_)
      · skip
        refine r_const k_128_44 ?_
        refine r_iret k_128_46 ?_
        have e : (zca (σ.2 15 s) (σ.2 15 t) (σ.2 16 s) (σ.2 16 t) i j n) = -11 := by unfold zca; (repeat' split) <;> omega
        exact zKe (q2 (by omega)) e
      · skip
        refine r_aload k_128_35 rfl ?_
        refine r_getR (q := 31) k_128_36 ⟨rfl, rfl⟩ ?_
        refine r_iload k_128_39 rfl ?_
        refine r_iald (v := (σ.2 15 t)) k_128_40 ⟨rfl, rfl⟩ ⟨by omega, by omega⟩ rfl ?_
        refine r_if_ge k_128_41 (fun h41 => ?_) (fun h41 => ?_)
        · skip
          refine r_aload k_128_47 rfl ?_
          refine r_getR (q := 32) k_128_48 ⟨rfl, rfl⟩ ?_
          refine r_iload k_128_51 rfl ?_
          refine r_iald (v := (σ.2 16 s)) k_128_52 ⟨rfl, rfl⟩ ⟨by omega, by omega⟩ rfl ?_
          refine r_aload k_128_53 rfl ?_
          refine r_getR (q := 32) k_128_54 ⟨rfl, rfl⟩ ?_
          refine r_iload k_128_57 rfl ?_
          refine r_iald (v := (σ.2 16 t)) k_128_58 ⟨rfl, rfl⟩ ⟨by omega, by omega⟩ rfl ?_
          refine r_ic_eq k_128_59 (fun h59 => ?_) (fun h59 => ?_)
          · skip
            refine r_iload k_128_65 rfl ?_
            refine r_if_lt k_128_67 (fun h67 => ?_) (fun h67 => ?_)
            · skip
              refine r_const k_128_105 ?_
              refine r_iret k_128_107 ?_
              have e : (zca (σ.2 15 s) (σ.2 15 t) (σ.2 16 s) (σ.2 16 t) i j n) = -13 := by unfold zca; (repeat' split) <;> omega
              exact zKe (q2 (by omega)) e
            · skip
              refine r_aload k_128_70 rfl ?_
              refine r_iload k_128_71 rfl ?_
              refine r_aload k_128_72 rfl ?_
              refine r_getR (q := 32) k_128_73 ⟨rfl, rfl⟩ ?_
              refine r_iload k_128_76 rfl ?_
              refine r_iald (v := (σ.2 16 s)) k_128_77 ⟨rfl, rfl⟩ ⟨by omega, by omega⟩ rfl ?_
              refine r_iload k_128_78 rfl ?_
              refine r_iload k_128_79 rfl ?_
              refine r_call (as := [vR (27), vI ((s : Int)), vI ((σ.2 16 s)), vI (i), vI (n)]) (r := []) k_128_81 rfl rfl rfl ?_
              refine y_found (s := s) rfl hs (by omega) (by omega) (by omega) js ?_
              have hr81 : zref (σ.2 16 s) (σ.2 15 s) (σ.2 16 s) i n = if 0 ≤ i ∧ i + n ≤ σ.2 15 s then 0 else -13 := by unfold zref; rw [if_neg (by omega), if_neg (by omega)]
              rw [hr81]
              by_cases c81 : 0 ≤ i ∧ i + n ≤ σ.2 15 s
              · rw [if_pos c81]
                refine r_if_lt k_128_84 (fun hz => absurd hz (by decide)) (fun _ => ?_)
                refine r_aload k_128_87 rfl ?_
                refine r_iload k_128_88 rfl ?_
                refine r_aload k_128_89 rfl ?_
                refine r_getR (q := 32) k_128_90 ⟨rfl, rfl⟩ ?_
                refine r_iload k_128_93 rfl ?_
                refine r_iald (v := (σ.2 16 t)) k_128_94 ⟨rfl, rfl⟩ ⟨by omega, by omega⟩ rfl ?_
                refine r_iload k_128_95 rfl ?_
                refine r_iload k_128_97 rfl ?_
                refine r_call (as := [vR (27), vI ((t : Int)), vI ((σ.2 16 t)), vI (j), vI (n)]) (r := []) k_128_99 rfl rfl rfl ?_
                refine y_found (s := t) rfl ht (by omega) (by omega) (by omega) jt ?_
                have hr99 : zref (σ.2 16 t) (σ.2 15 t) (σ.2 16 t) j n = if 0 ≤ j ∧ j + n ≤ σ.2 15 t then 0 else -13 := by unfold zref; rw [if_neg (by omega), if_neg (by omega)]
                rw [hr99]
                by_cases c99 : 0 ≤ j ∧ j + n ≤ σ.2 15 t
                · rw [if_pos c99]
                  refine r_if_ge k_128_102 (fun _ => ?_) (fun hz => absurd hz (by decide))
                  refine r_const k_128_108 ?_
                  refine r_istore (L' := [vR (27), vI ((s : Int)), vI (i), vI ((t : Int)), vI (j), vI (n), vI (0), vU]) k_128_109 rfl ?_
                  have hz0 : (zca (σ.2 15 s) (σ.2 15 t) (σ.2 16 s) (σ.2 16 t) i j n) = 0 := by unfold zca; (repeat' split) <;> omega
                  obtain ⟨a, ei⟩ : ∃ a : Nat, i = a := ⟨i.toNat, by omega⟩
                  obtain ⟨b, ej⟩ : ∃ b : Nat, j = b := ⟨j.toNat, by omega⟩
                  obtain ⟨N, en⟩ : ∃ N : Nat, n = N := ⟨n.toNat, by omega⟩
                  by_cases hab : a < b
                  · exact lpA _ a b N 0 _ rfl (by omega) ei ej en hz0 (by omega) (by omega) hab zfr_rf (fun q => by rw [if_neg (by omega)])
                  · exact lpB _ a b N 0 _ rfl (by omega) ei ej en hz0 (by omega) (by omega) (by omega) zfr_rf (fun q => by rw [if_neg (by omega)])
                · rw [if_neg c99]
                  refine r_if_ge k_128_102 (fun hz => absurd hz (by decide)) (fun _ => ?_)
                  refine r_const k_128_105 ?_
                  refine r_iret k_128_107 ?_
                  have e : (zca (σ.2 15 s) (σ.2 15 t) (σ.2 16 s) (σ.2 16 t) i j n) = -13 := by unfold zca; (repeat' split) <;> omega
                  exact zKe (q2 (by omega)) e
              · rw [if_neg c81]
                refine r_if_lt k_128_84 (fun _ => ?_) (fun hz => absurd hz (by decide))
                refine r_const k_128_105 ?_
                refine r_iret k_128_107 ?_
                have e : (zca (σ.2 15 s) (σ.2 15 t) (σ.2 16 s) (σ.2 16 t) i j n) = -13 := by unfold zca; (repeat' split) <;> omega
                exact zKe (q2 (by omega)) e
          · skip
            refine r_const k_128_62 ?_
            refine r_iret k_128_64 ?_
            have e : (zca (σ.2 15 s) (σ.2 15 t) (σ.2 16 s) (σ.2 16 t) i j n) = -12 := by unfold zca; (repeat' split) <;> omega
            exact zKe (q2 (by omega)) e
        · skip
          refine r_const k_128_44 ?_
          refine r_iret k_128_46 ?_
          have e : (zca (σ.2 15 s) (σ.2 15 t) (σ.2 16 s) (σ.2 16 t) i j n) = -11 := by unfold zca; (repeat' split) <;> omega
          exact zKe (q2 (by omega)) e
    · skip
      refine r_if_ne k_128_21 (fun hz => absurd hz (by decide)) (fun _ => ?_)
      refine r_const k_128_24 ?_
      refine r_iret k_128_25 ?_
      exfalso; omega
  · skip
    refine r_if_eq k_128_9 (fun _ => ?_) (fun hz => absurd hz (by decide))
    refine r_const k_128_24 ?_
    refine r_iret k_128_25 ?_
    exfalso; omega
theorem p_copy {d : Nat} {σ : zM} (h : zInv σ) {fr i to j n : Int} (hi : -2147483648 ≤ i ∧ i < 2147483648) (hj : -2147483648 ≤ j ∧ j < 2147483648) (hn : -2147483648 ≤ n ∧ n < 2147483648) : zC (d + 41) 73 [vR 0, vI fr, vI i, vI to, vI j, vI n] σ (fun σ1 r1 => zC (d + 5) 128 [vR 27, vI fr, vI i, vI to, vI j, vI n] σ1 (zpq σ1 r1)) := by
  have hI := h.2.2.2
  refine x_copy (d := d + 39) hI (fun q => ?_) (fun s t es et hs ht g => ?_) (fun s t es et hs ht g => ?_)
  · exact y_copy0 (d := d + 3) q ⟨⟨_, rfl, rfl⟩, h⟩
  · obtain ⟨b1, b2, b3, b4, b5⟩ := hI s hs
    obtain ⟨c1, c2, c3, c4, c5⟩ := hI t ht
    rw [es, et]
    refine y_copy (d := d + 3) hs ht (zIh_J hI s hs) (zIh_J hI t ht) hi hj hn (fun g2 => ⟨⟨_, rfl, by rw [b2, b4, c2, c4]⟩, h⟩) (fun a b N _ _ _ g2 => ?_)
    rw [b2, b4, c2, c4] at g2
    exact absurd g2 g
  · obtain ⟨b1, b2, b3, b4, b5⟩ := hI s hs
    obtain ⟨c1, c2, c3, c4, c5⟩ := hI t ht
    rw [es, et]
    have hz := zca_0 g
    have ft : zfr [] [7 + t] σ (zsetA σ (7 + t) (zcpy (σ.2 (7 + s)) (σ.2 (7 + t)) i.toNat j.toNat n.toNat)) := zfr_A zfr_rf (by simp)
    have e15 := ft.2 15 (by simp; omega)
    have e16 := ft.2 16 (by simp; omega)
    have e17 := ft.2 17 (by simp; omega)
    refine y_copy (d := d + 3) hs ht (by rw [e15]; exact zIh_J hI s hs) (by rw [e15]; exact zIh_J hI t ht) hi hj hn (fun g2 => ?_) (fun a b N ea eb en _ υ fu hc => ⟨⟨_, rfl, rfl⟩, ?_⟩)
    · rw [e15, e16, b2, b4, c2, c4] at g2
      exact absurd g g2
    · have F : zfr [] [7 + t, 17] σ υ := zfr_tr ft fu (by simp) (by simp)
      refine zInv_sh h F (fun n hn => by cases hn) (fun n hn => ?_) (zIh_mk (s0 := t) hI (fun s hs3 hs4 => ⟨⟨F.1 _ (by simp), F.1 _ (by simp)⟩, ?_, ?_, ?_, fun k hk => ?_⟩) ⟨?_, ?_, ?_, ?_, fun k hk => ?_⟩)
      · simp at hn; omega
      · exact F.2 _ (by simp; omega)
      · exact congrFun (F.2 15 (by simp; omega)) s
      · exact congrFun (F.2 16 (by simp; omega)) s
      · rw [hc, if_neg (by omega), e17]
      · rw [F.1 _ (by simp)]; exact c1
      · rw [F.1 _ (by simp), F.2 15 (by simp; omega)]; exact c2
      · rw [F.1 _ (by simp)]; exact c3
      · rw [F.1 _ (by simp), F.2 16 (by simp; omega)]; exact c4
      · rw [fu.2 (7 + t) (by simp; omega), zA_2, hc, e17]
        unfold zcpy
        by_cases c : b ≤ k ∧ k < b + N
        · rw [if_pos (by omega), if_pos (by omega), show 48 * t + k - (48 * t + b) + (48 * s + a) = 48 * s + (i.toNat + (k - j.toNat)) by omega]; exact b5 _ (by omega)
        · rw [if_neg (by omega), if_neg (by omega)]; exact c5 k hk
