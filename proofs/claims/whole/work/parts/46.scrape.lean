/-! scrape: the two alike -/
theorem x_scrape {d : Nat} {σ : zM} {K : zM → Option zV → Prop} {C : Nat} {law least draw : Int} {l : List Int} {p : Nat → Int} (hg : zgd C law least draw l p) (hx : zXn σ C law least draw l p) {n : Int} (q1 : ¬ (1 ≤ n ∧ n ≤ 48) → K σ (some (vI (-1)))) (q2 : 1 ≤ n → n ≤ 48 → l.length < n → K σ (some (vI (-2)))) (q3 : ∀ k : Nat, n = k → 1 ≤ k → k ≤ l.length → ∀ τ, zfr [0] [] σ τ → zis τ 0 (l.take (l.length - k)) → K τ (some (vI ((l.length : Int) - (k : Int))))) : zC (d + 1 + 1) 31 [vR (0), vI (n)] σ K := by
  have hl := hg.2.2.1
  refine zC_in rfl ?_
  show zG (d + 1) 31 K 0 zfx (0, [vR (0), vI (n)], [], σ)
  refine r_iload k_31_0 rfl ?_
  refine r_const k_31_1 ?_
  refine r_ic_lt k_31_2 (fun h2 => ?_) (fun h2 => ?_)
  · skip
    refine r_const k_31_11 ?_
    refine r_iret k_31_12 ?_
    exact q1 (by omega)
  · skip
    refine r_iload k_31_5 rfl ?_
    refine r_const k_31_6 ?_
    refine r_ic_le k_31_8 (fun h8 => ?_) (fun h8 => ?_)
    · skip
      refine r_iload k_31_13 rfl ?_
      refine r_aload k_31_14 rfl ?_
      refine r_getR (q := 1) k_31_15 ⟨rfl, rfl⟩ ?_
      refine r_getR (q := 2) k_31_18 ⟨rfl, rfl⟩ ?_
      refine r_getS (v := (l.length : Int)) k_31_21 ⟨rfl, rfl⟩ hx.2.1.1 ?_
      refine r_ic_le k_31_24 (fun h24 => ?_) (fun h24 => ?_)
      · skip
        refine r_aload k_31_30 rfl ?_
        refine r_getR (q := 1) k_31_31 ⟨rfl, rfl⟩ ?_
        refine r_getR (q := 2) k_31_34 ⟨rfl, rfl⟩ ?_
        refine r_iload k_31_37 rfl ?_
        refine r_call (as := [vR (2), vI (n)]) (r := []) k_31_38 rfl rfl rfl ?_
        obtain ⟨k, rfl⟩ : ∃ k : Nat, n = k := ⟨n.toNat, by omega⟩
        have htd : (l.take (l.length - k)) ++ l.drop (l.length - k) = l := List.take_append_drop _ _
        have hdl : (l.drop (l.length - k)).length = k := by rw [List.length_drop]; omega
        have htl : (l.take (l.length - k)).length = l.length - k := by rw [List.length_take]; omega
        refine s_cutl (r := 0) (l := (l.take (l.length - k))) (m := l.drop (l.length - k)) (by decide) (by rw [htd]; exact hx.2.1) (by rw [htd]; omega) (by rw [hdl]) (fun τ1 f1 z1 => ?_)
        have hs1 : τ1.1 0 = (l.length : Int) - (k : Int) := by rw [z1.1, htl]; omega
        refine r_aload k_31_41 rfl ?_
        refine r_getR (q := 1) k_31_42 ⟨rfl, rfl⟩ ?_
        refine r_getR (q := 2) k_31_45 ⟨rfl, rfl⟩ ?_
        refine r_getS (v := ((l.length : Int) - (k : Int))) k_31_48 ⟨rfl, rfl⟩ hs1 ?_
        refine r_iret k_31_51 ?_
        exact q3 k rfl (by omega) (by omega) _ f1 z1
      · skip
        refine r_const k_31_27 ?_
        refine r_iret k_31_29 ?_
        exact q2 (by omega) (by omega) (by omega)
    · skip
      refine r_const k_31_11 ?_
      refine r_iret k_31_12 ?_
      exact q1 (by omega)
theorem y_scrape {d : Nat} {σ : zM} {K : zM → Option zV → Prop} {C : Nat} {law least draw : Int} {l : List Int} {p : Nat → Int} (hg : zgd C law least draw l p) (hy : zYn (σ.2 12) C law least draw l p) {n : Int} (q1 : ¬ (1 ≤ n ∧ n ≤ 48) → K σ (some (vI (-1)))) (q2 : 1 ≤ n → n ≤ 48 → l.length < n → K σ (some (vI (-2)))) (q3 : ∀ k : Nat, n = k → 1 ≤ k → k ≤ l.length → K (zsetA σ 12 (zup (σ.2 12) 4 ((l.length : Int) - (k : Int)))) (some (vI ((l.length : Int) - (k : Int))))) : zC (d + 1 + 1) 91 [vR (27), vI (n)] σ K := by
  have hl := hg.2.2.1
  refine zC_in rfl ?_
  show zG (d + 1) 91 K 0 zfx (0, [vR (27), vI (n)], [], σ)
  refine r_iload k_91_0 rfl ?_
  refine r_cnv (w := vL (n)) k_91_1 rfl ?_
  refine r_lconst k_91_2 ?_
  refine r_lconst k_91_3 ?_
  refine r_call (as := [vL (n), vL (1), vL (48)]) (r := []) k_91_6 rfl rfl rfl ?_
  refine t_in (fun g6 => ?_) (fun g6 => ?_)
  · skip
    refine r_if_ne k_91_9 (fun _ => ?_) (fun hz => absurd hz (by decide))
    refine r_iload k_91_14 rfl ?_
    refine r_aload k_91_15 rfl ?_
    refine r_getR (q := 28) k_91_16 ⟨rfl, rfl⟩ ?_
    refine r_const k_91_19 ?_
    refine r_iald (v := (l.length : Int)) k_91_20 ⟨rfl, rfl⟩ ⟨by decide, by decide⟩ hy.2.2.2.2.1 ?_
    refine r_ic_le k_91_21 (fun h21 => ?_) (fun h21 => ?_)
    · skip
      refine r_aload k_91_27 rfl ?_
      refine r_getR (q := 28) k_91_28 ⟨rfl, rfl⟩ ?_
      refine r_const k_91_31 ?_
      refine r_dup2 k_91_32 ?_
      refine r_iald (v := (l.length : Int)) k_91_33 ⟨rfl, rfl⟩ ⟨by decide, by decide⟩ hy.2.2.2.2.1 ?_
      refine r_iload k_91_34 rfl ?_
      refine r_bin (v := (l.length : Int) - n) k_91_35 (zb_sub ⟨by omega, by omega⟩) ?_
      refine r_iast k_91_36 ⟨rfl, rfl⟩ ⟨by decide, by decide⟩ ?_
      refine r_aload k_91_37 rfl ?_
      refine r_getR (q := 28) k_91_38 ⟨rfl, rfl⟩ ?_
      refine r_const k_91_41 ?_
      refine r_iald (v := ((l.length : Int) - n)) k_91_42 ⟨rfl, rfl⟩ ⟨by decide, by decide⟩ (by rw [zA_2]; exact zup_1 _ _ _) ?_
      refine r_iret k_91_43 ?_
      obtain ⟨k, rfl⟩ : ∃ k : Nat, n = k := ⟨n.toNat, by omega⟩
      exact q3 k rfl (by omega) (by omega)
    · skip
      refine r_const k_91_24 ?_
      refine r_iret k_91_26 ?_
      exact q2 (by omega) (by omega) (by omega)
  · skip
    refine r_if_ne k_91_9 (fun hz => absurd hz (by decide)) (fun _ => ?_)
    refine r_const k_91_12 ?_
    refine r_iret k_91_13 ?_
    exact q1 (by omega)
theorem p_scrape {d : Nat} {σ : zM} (h : zInv σ) {n : Int} : zC (d + 41) 31 [vR 0, vI n] σ (fun σ1 r1 => zC (d + 5) 91 [vR 27, vI n] σ1 (zpq σ1 r1)) := by
  obtain ⟨C, law, least, draw, l, p, hg, hx, hy⟩ := h.1
  have hnn : ∀ {x : Prop}, ¬ x → x → False := fun a b => a b
  refine x_scrape (d := d + 39) hg hx (fun q => y_scrape (d := d + 3) hg hy (fun _ => ⟨⟨_, rfl, rfl⟩, h⟩) (fun a b _ => absurd ⟨a, b⟩ q) (fun k e1 e2 e3 => absurd ⟨by omega, by have := hg.2.2.1; omega⟩ q)) (fun a b c => y_scrape (d := d + 3) hg hy (fun q => absurd ⟨a, b⟩ q) (fun _ _ _ => ⟨⟨_, rfl, rfl⟩, h⟩) (fun k e1 e2 e3 => absurd c (by omega))) (fun k e1 e2 e3 τ f z => ?_)
  have hy2 : zYn (τ.2 12) C law least draw l p := by rw [f.2 12 (by decide)]; exact hy
  have hl := hg.2.2.1
  refine y_scrape (d := d + 3) hg hy2 (fun q => absurd ⟨by omega, by omega⟩ q) (fun _ _ c => absurd c (by omega)) (fun k2 e4 e5 e6 => ?_)
  obtain rfl : k2 = k := by omega
  refine ⟨⟨_, rfl, rfl⟩, ?_⟩
  have htl : (l.take (l.length - k2)).length = l.length - k2 := by rw [List.length_take]; omega
  have f2 : zfr [0] [12] σ (zsetA τ 12 (zup (τ.2 12) 4 ((l.length : Int) - (k2 : Int)))) := zfr_A (zfr_w f (by decide) (by decide)) (by decide)
  refine ⟨⟨C, law, least, draw, l.take (l.length - k2), p, ⟨hg.1, hg.2.1, by omega, fun x hx0 => hg.2.2.2.1 x (List.mem_of_mem_take hx0), hg.2.2.2.2⟩, ⟨zrl_fr hx.1 f2 (by decide), ⟨z.1, z.2⟩, zpr_fr hx.2.2.1 f2 (by decide), (f2.1 10 (by decide)).trans hx.2.2.2⟩, ?_⟩, zOth_fr h.2 f2 (by decide) (by decide)⟩
  rw [zA_2]
  obtain ⟨a0, a1, a2, a3, a4, a5, a6⟩ := hy2
  refine ⟨?_, ?_, ?_, ?_, ?_, fun k hk => ?_, fun k hk => ?_⟩
  · rw [zup_n (by decide)]; exact a0
  · rw [zup_n (by decide)]; exact a1
  · rw [zup_n (by decide)]; exact a2
  · rw [zup_n (by decide)]; exact a3
  · rw [zup_1, htl]; omega
  · rw [zup_n (by omega)]; exact a5 k hk
  · rw [zup_n (by omega), zlf_t (by omega)]; exact a6 k (by omega)
