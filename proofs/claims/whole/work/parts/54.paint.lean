/-! paint: the two alike -/
theorem zset_bit {P : Nat → Bool} {C c : Nat} (hC : 2 ≤ C) (hC4 : C ≤ 4) (hc : c < C) : zbin 3 (zbin 6 (zset P C) (c : Int)) 1 = if P c = true then 1 else 0 := by
  have g2 : ∀ (b0 b1 : Bool) (x0 x1 : Int), x0 = (if b0 = true then (2 : Int) ^ 0 else 0) → x1 = (if b1 = true then (2 : Int) ^ 1 else 0) → zbin 3 (zbin 6 (0 + x0 + x1) ((0 : Nat) : Int)) 1 = (if b0 = true then 1 else 0) ∧ zbin 3 (zbin 6 (0 + x0 + x1) ((1 : Nat) : Int)) 1 = (if b1 = true then 1 else 0) := by
    intro b0 b1 x0 x1 h0 h1
    subst h0; subst h1
    cases b0 <;> cases b1 <;> decide +kernel
  have g3 : ∀ (b0 b1 b2 : Bool) (x0 x1 x2 : Int), x0 = (if b0 = true then (2 : Int) ^ 0 else 0) → x1 = (if b1 = true then (2 : Int) ^ 1 else 0) → x2 = (if b2 = true then (2 : Int) ^ 2 else 0) → zbin 3 (zbin 6 (0 + x0 + x1 + x2) ((0 : Nat) : Int)) 1 = (if b0 = true then 1 else 0) ∧ zbin 3 (zbin 6 (0 + x0 + x1 + x2) ((1 : Nat) : Int)) 1 = (if b1 = true then 1 else 0) ∧ zbin 3 (zbin 6 (0 + x0 + x1 + x2) ((2 : Nat) : Int)) 1 = (if b2 = true then 1 else 0) := by
    intro b0 b1 b2 x0 x1 x2 h0 h1 h2
    subst h0; subst h1; subst h2
    cases b0 <;> cases b1 <;> cases b2 <;> decide +kernel
  have g4 : ∀ (b0 b1 b2 b3 : Bool) (x0 x1 x2 x3 : Int), x0 = (if b0 = true then (2 : Int) ^ 0 else 0) → x1 = (if b1 = true then (2 : Int) ^ 1 else 0) → x2 = (if b2 = true then (2 : Int) ^ 2 else 0) → x3 = (if b3 = true then (2 : Int) ^ 3 else 0) → zbin 3 (zbin 6 (0 + x0 + x1 + x2 + x3) ((0 : Nat) : Int)) 1 = (if b0 = true then 1 else 0) ∧ zbin 3 (zbin 6 (0 + x0 + x1 + x2 + x3) ((1 : Nat) : Int)) 1 = (if b1 = true then 1 else 0) ∧ zbin 3 (zbin 6 (0 + x0 + x1 + x2 + x3) ((2 : Nat) : Int)) 1 = (if b2 = true then 1 else 0) ∧ zbin 3 (zbin 6 (0 + x0 + x1 + x2 + x3) ((3 : Nat) : Int)) 1 = (if b3 = true then 1 else 0) := by
    intro b0 b1 b2 b3 x0 x1 x2 x3 h0 h1 h2 h3
    subst h0; subst h1; subst h2; subst h3
    cases b0 <;> cases b1 <;> cases b2 <;> cases b3 <;> decide +kernel
  match C, hC, hC4, c, hc with
  | 2, _, _, 0, _ => exact (g2 (P 0) (P 1) _ _ rfl rfl).1
  | 2, _, _, 1, _ => exact (g2 (P 0) (P 1) _ _ rfl rfl).2
  | 3, _, _, 0, _ => exact (g3 (P 0) (P 1) (P 2) _ _ _ rfl rfl rfl).1
  | 3, _, _, 1, _ => exact (g3 (P 0) (P 1) (P 2) _ _ _ rfl rfl rfl).2.1
  | 3, _, _, 2, _ => exact (g3 (P 0) (P 1) (P 2) _ _ _ rfl rfl rfl).2.2
  | 4, _, _, 0, _ => exact (g4 (P 0) (P 1) (P 2) (P 3) _ _ _ _ rfl rfl rfl rfl).1
  | 4, _, _, 1, _ => exact (g4 (P 0) (P 1) (P 2) (P 3) _ _ _ _ rfl rfl rfl rfl).2.1
  | 4, _, _, 2, _ => exact (g4 (P 0) (P 1) (P 2) (P 3) _ _ _ _ rfl rfl rfl rfl).2.2.1
  | 4, _, _, 3, _ => exact (g4 (P 0) (P 1) (P 2) (P 3) _ _ _ _ rfl rfl rfl rfl).2.2.2
theorem zset_15 {P : Nat → Bool} : ∀ C, C ≤ 4 → 0 ≤ zset P C ∧ zset P C < 16
  | 0, _ => ⟨Int.le_refl _, show (0 : Int) < 16 by decide⟩
  | 1, _ => by show 0 ≤ (0 : Int) + (if P 0 = true then (2 : Int) ^ 0 else 0) ∧ (0 : Int) + (if P 0 = true then (2 : Int) ^ 0 else 0) < 16; cases P 0 <;> decide
  | 2, _ => by show 0 ≤ (0 : Int) + (if P 0 = true then (2 : Int) ^ 0 else 0) + (if P 1 = true then (2 : Int) ^ 1 else 0) ∧ (0 : Int) + (if P 0 = true then (2 : Int) ^ 0 else 0) + (if P 1 = true then (2 : Int) ^ 1 else 0) < 16; cases P 0 <;> cases P 1 <;> decide
  | 3, _ => by show 0 ≤ (0 : Int) + (if P 0 = true then (2 : Int) ^ 0 else 0) + (if P 1 = true then (2 : Int) ^ 1 else 0) + (if P 2 = true then (2 : Int) ^ 2 else 0) ∧ (0 : Int) + (if P 0 = true then (2 : Int) ^ 0 else 0) + (if P 1 = true then (2 : Int) ^ 1 else 0) + (if P 2 = true then (2 : Int) ^ 2 else 0) < 16; cases P 0 <;> cases P 1 <;> cases P 2 <;> decide
  | 4, _ => by show 0 ≤ (0 : Int) + (if P 0 = true then (2 : Int) ^ 0 else 0) + (if P 1 = true then (2 : Int) ^ 1 else 0) + (if P 2 = true then (2 : Int) ^ 2 else 0) + (if P 3 = true then (2 : Int) ^ 3 else 0) ∧ (0 : Int) + (if P 0 = true then (2 : Int) ^ 0 else 0) + (if P 1 = true then (2 : Int) ^ 1 else 0) + (if P 2 = true then (2 : Int) ^ 2 else 0) + (if P 3 = true then (2 : Int) ^ 3 else 0) < 16; cases P 0 <;> cases P 1 <;> cases P 2 <;> cases P 3 <;> decide
theorem zmay_15 {C : Nat} {law least : Int} {l : List Int} (h : C ≤ 4) : 0 ≤ zmay C law least l ∧ zmay C law least l < 16 := by
  unfold zmay
  split
  · exact zset_15 C h
  · decide
theorem zmay_bitN {C c : Nat} {law least : Int} {l : List Int} (hC : 2 ≤ C) (hC4 : C ≤ 4) (hc : c < C) : zbin 3 (zbin 6 (zmay C law least l) (c : Int)) 1 = if zfau law least (l ++ [(c : Int)]) = 0 then 1 else 0 := by
  unfold zmay
  by_cases h : zfau law least l = 0
  · rw [if_pos h, zset_bit hC hC4 hc]
    by_cases h2 : zend law least (l ++ [(c : Int)]) = 0
    · rw [if_pos (show zok law least l c = true from decide_eq_true h2), if_pos (zfau_app.mpr ⟨h, h2⟩)]
    · rw [if_neg (by rw [show zok law least l c = false from decide_eq_false h2]; decide), if_neg (fun q => h2 (zfau_app.mp q).2)]
  · rw [if_neg h, if_neg (fun q => h (zfau_app.mp q).1)]
    match c, hC4, hc with
    | 0, _, _ => decide +kernel
    | 1, _, _ => decide +kernel
    | 2, _, _ => decide +kernel
    | 3, _, _ => decide +kernel
    | c + 4, h, h2 => omega
/-- c may come -/
theorem zmay_bit {C : Nat} {c : Int} {law least : Int} {l : List Int} (hC : 2 ≤ C) (hC4 : C ≤ 4) (h0 : 0 ≤ c) (hc : c < (C : Int)) : zbin 3 (zbin 6 (zmay C law least l) c) 1 = if zfau law least (l ++ [c]) = 0 then 1 else 0 := by
  obtain ⟨k, rfl⟩ : ∃ k : Nat, c = k := ⟨c.toNat, by omega⟩
  exact zmay_bitN hC hC4 (by omega)
theorem x_paint {d : Nat} {σ : zM} {K : zM → Option zV → Prop} {C : Nat} {law least draw : Int} {l : List Int} {p : Nat → Int} (hg : zgd C law least draw l p) (hx : zXn σ C law least draw l p) {c : Int} (q1 : ¬ (0 ≤ c ∧ c < C) → K σ (some (vI (-1)))) (q2 : 0 ≤ c → c < C → ∀ τ, zfr [2] [2] σ τ → zfau law least (l ++ [c]) ≠ 0 → K τ (some (vI (-2)))) (q3 : 0 ≤ c → c < C → ∀ τ, zfr [2] [2] σ τ → zfau law least (l ++ [c]) = 0 → l.length = 48 → K τ (some (vI (-3)))) (q4 : 0 ≤ c → c < C → ∀ τ, zfau law least (l ++ [c]) = 0 → l.length < 48 → zfr [0, 2] [0, 2] σ τ ∧ zis τ 0 (l ++ [c]) → K τ (some (vI ((l.length : Int) + 1)))) : zC (d + 5 + 1) 30 [vR (0), vI (c)] σ K := by
  have hl := hg.2.2.1
  have hb := hg.1
  have hC := hg.1.1
  have hC4 := hg.1.2.1
  refine zC_in rfl ?_
  show zG (d + 5) 30 K 0 zfx (0, [vR (0), vI (c)], [], σ)
  refine r_aload k_30_0 rfl ?_
  refine r_getR (q := 1) k_30_1 ⟨rfl, rfl⟩ ?_
  refine r_getR (q := 4) k_30_4 ⟨rfl, rfl⟩ ?_
  refine r_iload k_30_7 rfl ?_
  refine r_call (as := [vR (4), vI (c)]) (r := []) k_30_8 rfl rfl rfl ?_
  refine s_hasCol (fun g8 e8 => ?_) (fun g8 => ?_)
  · skip
    rw [hx.1.1] at e8
    refine r_if_ne k_30_11 (fun _ => ?_) (fun hz => absurd hz (by decide))
    refine r_aload k_30_16 rfl ?_
    refine r_aload k_30_17 rfl ?_
    refine r_getR (q := 1) k_30_18 ⟨rfl, rfl⟩ ?_
    refine r_getR (q := 2) k_30_21 ⟨rfl, rfl⟩ ?_
    refine r_getS (v := (l.length : Int)) k_30_24 ⟨rfl, rfl⟩ hx.2.1.1 ?_
    refine r_call (as := [vR (0), vI ((l.length : Int))]) (r := []) k_30_27 rfl rfl rfl ?_
    refine v_open (n := l.length) hg.1 hx.1 hx.2.1 (zgd_c hg) hl (Nat.le_refl _) (fun τ1 f1 => ?_)
    rw [List.take_length]
    have hbt := zmay_bit (law := law) (least := least) (l := l) (C := C) (by omega) (by omega) (c := c) (by omega) (by omega)
    have z1 : zis τ1 0 l := zis_fr hx.2.1 f1 (by decide) (by decide)
    refine r_iload k_30_30 rfl ?_
    refine r_bin (v := zbin 6 ((zmay C law least l)) c) k_30_31 rfl ?_
    refine r_const k_30_32 ?_
    refine r_bin (v := zbin 3 (zbin 6 ((zmay C law least l)) c) 1) k_30_33 rfl ?_
    refine r_if_ne k_30_34 (fun h34 => ?_) (fun h34 => ?_)
    · skip
      refine r_aload k_30_40 rfl ?_
      refine r_getR (q := 1) k_30_41 ⟨rfl, rfl⟩ ?_
      refine r_getR (q := 2) k_30_44 ⟨rfl, rfl⟩ ?_
      refine r_getS (v := (l.length : Int)) k_30_47 ⟨rfl, rfl⟩ z1.1 ?_
      refine r_const k_30_50 ?_
      refine r_ic_lt k_30_52 (fun h52 => ?_) (fun h52 => ?_)
      · skip
        refine r_aload k_30_58 rfl ?_
        refine r_getR (q := 1) k_30_59 ⟨rfl, rfl⟩ ?_
        refine r_getR (q := 2) k_30_62 ⟨rfl, rfl⟩ ?_
        refine r_iload k_30_65 rfl ?_
        refine r_call (as := [vR (2), vI (c)]) (r := []) k_30_66 rfl rfl rfl ?_
        refine v_add (r := 0) (l := l) (c := c) (by decide) z1 (by omega) (fun τ2 f2 z2 => ?_)
        have F2 : zfr [0, 2] [0, 2] σ τ2 := zfr_tr f1 f2 (by decide) (by decide)
        have hs2 : τ2.1 0 = (l.length : Int) + 1 := by rw [z2.1, zlen1]; rfl
        refine r_aload k_30_69 rfl ?_
        refine r_getR (q := 1) k_30_70 ⟨rfl, rfl⟩ ?_
        refine r_getR (q := 2) k_30_73 ⟨rfl, rfl⟩ ?_
        refine r_getS (v := ((l.length : Int) + 1)) k_30_76 ⟨rfl, rfl⟩ hs2 ?_
        refine r_iret k_30_79 ?_
        exact q4 (by omega) (by omega) _ (by apply Decidable.byContradiction; intro q; rw [if_neg q] at hbt; omega) (by omega) ⟨F2, z2⟩
      · skip
        refine r_const k_30_55 ?_
        refine r_iret k_30_57 ?_
        exact q3 (by omega) (by omega) _ f1 (by apply Decidable.byContradiction; intro q; rw [if_neg q] at hbt; omega) (by omega)
    · skip
      refine r_const k_30_37 ?_
      refine r_iret k_30_39 ?_
      exact q2 (by omega) (by omega) _ f1 (fun q => by rw [if_pos q] at hbt; omega)
  · skip
    rw [hx.1.1] at g8
    refine r_if_ne k_30_11 (fun hz => absurd hz (by decide)) (fun _ => ?_)
    refine r_const k_30_14 ?_
    refine r_iret k_30_15 ?_
    exact q1 (by omega)
theorem zYn_add {a : Nat → Int} {C : Nat} {law least draw c : Int} {l : List Int} {p : Nat → Int} (h : zYn a C law least draw l p) : zYn (zup (zup a (9 + l.length) c) 4 ((l.length : Int) + 1)) C law least draw (l ++ [c]) p := by
  obtain ⟨a0, a1, a2, a3, a4, a5, a6⟩ := h
  refine ⟨?_, ?_, ?_, ?_, ?_, fun j hj => ?_, fun j hj => ?_⟩
  · rw [zup_n (by omega), zup_n (by omega)]; exact a0
  · rw [zup_n (by omega), zup_n (by omega)]; exact a1
  · rw [zup_n (by omega), zup_n (by omega)]; exact a2
  · rw [zup_n (by omega), zup_n (by omega)]; exact a3
  · rw [zup_1, zlen1]; rfl
  · rw [zup_n (by omega), zup_n (by omega)]; exact a5 j hj
  · rw [zlen1] at hj
    rw [zup_n (by omega)]
    by_cases e : j = l.length
    · subst e; rw [zup_1, zlf_e]
    · rw [zup_n (by omega), zlf_l (by omega)]; exact a6 j (by omega)
theorem y_paint {d : Nat} {σ : zM} {K : zM → Option zV → Prop} {C : Nat} {law least draw : Int} {l : List Int} {p : Nat → Int} (hg : zgd C law least draw l p) (hy : zYn (σ.2 12) C law least draw l p) {c : Int} (q1 : ¬ (0 ≤ c ∧ c < C) → K σ (some (vI (-1)))) (q2 : 0 ≤ c → c < C → ∀ τ, zfr [] [18, 19] σ τ → zfau law least (l ++ [c]) ≠ 0 → K τ (some (vI (-2)))) (q3 : 0 ≤ c → c < C → ∀ τ, zfr [] [18, 19] σ τ → zfau law least (l ++ [c]) = 0 → l.length = 48 → K τ (some (vI (-3)))) (q4 : 0 ≤ c → c < C → ∀ τ, zfau law least (l ++ [c]) = 0 → l.length < 48 → zfr [] [12, 18, 19] σ τ ∧ zYn (τ.2 12) C law least draw (l ++ [c]) p → K τ (some (vI ((l.length : Int) + 1)))) : zC (d + 3 + 1) 90 [vR (27), vI (c)] σ K := by
  have hl := hg.2.2.1
  have hb := hg.1
  have hC := hg.1.1
  have hC4 := hg.1.2.1
  refine zC_in rfl ?_
  show zG (d + 3) 90 K 0 zfx (0, [vR (27), vI (c), vU], [], σ)
  refine r_aload k_90_0 rfl ?_
  refine r_iload k_90_1 rfl ?_
  refine r_call (as := [vR (27), vI (c)]) (r := []) k_90_2 rfl rfl rfl ?_
  refine y_isColour hg hy (fun g2 e2 => ?_) (fun g2 => ?_)
  · skip
    refine r_if_ne k_90_5 (fun _ => ?_) (fun hz => absurd hz (by decide))
    refine r_aload k_90_10 rfl ?_
    refine r_call (as := [vR (27)]) (r := []) k_90_11 rfl rfl rfl ?_
    refine v_lay (N := l.length) hy.2.2.2.2.1 hl (fun τ1 f1 r1 => ?_)
    refine r_istore (L' := [vR (27), vI (c), vI ((l.length : Int))]) k_90_14 rfl ?_
    refine r_aload k_90_15 rfl ?_
    refine r_getR (q := 34) k_90_16 ⟨rfl, rfl⟩ ?_
    refine r_iload k_90_19 rfl ?_
    refine r_iload k_90_20 rfl ?_
    refine r_iast k_90_21 ⟨rfl, rfl⟩ ⟨by omega, by omega⟩ ?_
    refine r_aload k_90_22 rfl ?_
    refine r_iload k_90_23 rfl ?_
    refine r_const k_90_24 ?_
    refine r_bin (v := (l.length : Int) + 1) k_90_25 (zb_add ⟨by omega, by omega⟩) ?_
    refine r_call (as := [vR (27), vI ((l.length : Int) + 1)]) (r := []) k_90_26 rfl rfl rfl ?_
    have F1a : zfr [] [18, 19] σ (zsetA τ1 18 (zup (τ1.2 18) ((l.length : Int) : Int).toNat c)) := zfr_w (zfr_A (S := []) (A := [18]) f1 (by decide)) (by decide) (by decide)
    refine t_faultsl (l := l ++ [c]) ⟨hg.1.2.2.1, hg.1.2.2.2.1⟩ hg.1.2.2.2.2 ((congrFun (F1a.2 12 (by decide)) 1).trans hy.2.1) ((congrFun (F1a.2 12 (by decide)) 2).trans hy.2.2.1) (zrs_put (zYrs hy r1) (by omega)) (zcol_a (zgd_c hg) (by omega) (by omega)) (by rw [zlen1]; omega) (by rw [zlen1]; rfl) (fun τ2 f2 => ?_)
    have F2 : zfr [] [18, 19] σ τ2 := zfr_tr F1a f2 (by decide) (by decide)
    have hY2 : zYn (τ2.2 12) C law least draw l p := by rw [F2.2 12 (by decide)]; exact hy
    refine r_if_le k_90_29 (fun h29 => ?_) (fun h29 => ?_)
    · skip
      refine r_iload k_90_35 rfl ?_
      refine r_const k_90_36 ?_
      refine r_ic_ne k_90_38 (fun h38 => ?_) (fun h38 => ?_)
      · skip
        refine r_aload k_90_44 rfl ?_
        refine r_getR (q := 28) k_90_45 ⟨rfl, rfl⟩ ?_
        refine r_const k_90_48 ?_
        refine r_iload k_90_50 rfl ?_
        refine r_bin (v := 9 + ((l.length : Int))) k_90_51 (zb_add ⟨by omega, by omega⟩) ?_
        refine r_iload k_90_52 rfl ?_
        refine r_iast k_90_53 ⟨rfl, rfl⟩ ⟨by omega, by omega⟩ ?_
        refine r_aload k_90_54 rfl ?_
        refine r_getR (q := 28) k_90_55 ⟨rfl, rfl⟩ ?_
        refine r_const k_90_58 ?_
        refine r_iload k_90_59 rfl ?_
        refine r_const k_90_60 ?_
        refine r_bin (v := (l.length : Int) + 1) k_90_61 (zb_add ⟨by omega, by omega⟩) ?_
        refine r_iast k_90_62 ⟨rfl, rfl⟩ ⟨by decide, by decide⟩ ?_
        refine r_iload k_90_63 rfl ?_
        refine r_const k_90_64 ?_
        refine r_bin (v := (l.length : Int) + 1) k_90_65 (zb_add ⟨by omega, by omega⟩) ?_
        refine r_iret k_90_66 ?_
        have f3 : zfr [] [12, 18, 19] σ (zsetA (zsetA τ2 12 (zup (τ2.2 12) (9 + ((l.length : Int)) : Int).toNat c)) 12 (zup (zup (τ2.2 12) (9 + ((l.length : Int)) : Int).toNat c) (4 : Int).toNat ((l.length : Int) + 1))) := zfr_A (zfr_A (zfr_w F2 (by decide) (by decide)) (by decide)) (by decide)
        refine q4 (by omega) (by omega) _ (by omega) (by omega) ⟨f3, ?_⟩
        rw [zA_2, zA_2, show ((9 : Int) + (l.length : Int)).toNat = 9 + l.length by omega]
        exact zYn_add hY2
      · skip
        refine r_const k_90_41 ?_
        refine r_iret k_90_43 ?_
        exact q3 (by omega) (by omega) _ F2 (by omega) (by omega)
    · skip
      refine r_const k_90_32 ?_
      refine r_iret k_90_34 ?_
      exact q2 (by omega) (by omega) _ F2 (by omega)
  · skip
    refine r_if_ne k_90_5 (fun hz => absurd hz (by decide)) (fun _ => ?_)
    refine r_const k_90_8 ?_
    refine r_iret k_90_9 ?_
    exact q1 (by omega)
theorem p_paint {d : Nat} {σ : zM} (h : zInv σ) {c : Int} : zC (d + 41) 30 [vR 0, vI c] σ (fun σ1 r1 => zC (d + 5) 90 [vR 27, vI c] σ1 (zpq σ1 r1)) := by
  obtain ⟨C, law, least, draw, l, p, hg, hx, hy⟩ := h.1
  refine x_paint (d := d + 35) hg hx (fun q => y_paint (d := d + 1) hg hy (fun _ => ⟨⟨_, rfl, rfl⟩, h⟩) (fun a b => absurd ⟨a, b⟩ q) (fun a b => absurd ⟨a, b⟩ q) (fun a b => absurd ⟨a, b⟩ q)) (fun a b τ f g => ?_) (fun a b τ f g g2 => ?_) (fun a b τ g g2 f => ?_)
  · have hy2 : zYn (τ.2 12) C law least draw l p := by rw [f.2 12 (by decide)]; exact hy
    exact y_paint (d := d + 1) hg hy2 (fun q => absurd ⟨a, b⟩ q) (fun _ _ υ f2 _ => ⟨⟨_, rfl, rfl⟩, zInv_fr (zInv_fr h f (by decide) (by decide)) f2 (by decide) (by decide)⟩) (fun _ _ υ f2 g3 _ => absurd g3 g) (fun _ _ υ g3 _ _ => absurd g3 g)
  · have hy2 : zYn (τ.2 12) C law least draw l p := by rw [f.2 12 (by decide)]; exact hy
    exact y_paint (d := d + 1) hg hy2 (fun q => absurd ⟨a, b⟩ q) (fun _ _ υ f2 g3 => absurd g g3) (fun _ _ υ f2 g3 _ => ⟨⟨_, rfl, rfl⟩, zInv_fr (zInv_fr h f (by decide) (by decide)) f2 (by decide) (by decide)⟩) (fun _ _ υ g3 g4 _ => absurd g4 (by omega))
  · have hy2 : zYn (τ.2 12) C law least draw l p := by rw [f.1.2 12 (by decide)]; exact hy
    refine y_paint (d := d + 1) hg hy2 (fun q => absurd ⟨a, b⟩ q) (fun _ _ υ f2 g3 => absurd g g3) (fun _ _ υ f2 g3 g4 => absurd g4 (by omega)) (fun _ _ υ g3 g4 f2 => ⟨⟨_, rfl, rfl⟩, ?_⟩)
    have F : zfr [0, 2] [0, 2, 12, 18, 19] σ υ := zfr_tr f.1 f2.1 (by decide) (by decide)
    refine ⟨⟨C, law, least, draw, l ++ [c], p, ⟨hg.1, hg.2.1, by rw [zlen1]; omega, fun x hx0 => ?_, hg.2.2.2.2⟩, ⟨zrl_fr hx.1 F (by decide), zis_fr f.2 f2.1 (by decide) (by decide), zpr_fr hx.2.2.1 F (by decide), (F.1 10 (by decide)).trans hx.2.2.2⟩, f2.2⟩, zOth_fr h.2 F (by decide) (by decide)⟩
    rcases List.mem_append.mp hx0 with q | q
    · exact hg.2.2.2.1 x q
    · rw [List.mem_singleton.mp q]; exact ⟨a, b⟩
