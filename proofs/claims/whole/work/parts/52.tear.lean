/-! tear: the two alike -/
theorem zlf_er {l : List Int} {i k : Nat} : zlf (l.eraseIdx i) k = if k < i then zlf l k else zlf l (k + 1) := by
  unfold zlf
  rw [List.getD_eq_getElem?_getD, List.getElem?_eraseIdx]
  split <;> rw [List.getD_eq_getElem?_getD]
theorem zer_len {l : List Int} {i : Nat} (h : i < l.length) : (l.eraseIdx i).length = l.length - 1 := List.length_eraseIdx_of_lt h
theorem zer_col {l : List Int} {i : Nat} (h : zcol l) : zcol (l.eraseIdx i) := fun x hx => h x (List.mem_of_mem_eraseIdx hx)
theorem x_tear {d : Nat} {σ : zM} {K : zM → Option zV → Prop} {C : Nat} {law least draw : Int} {l : List Int} {p : Nat → Int} (hg : zgd C law least draw l p) (hx : zXn σ C law least draw l p) {i : Int} (q1 : ¬ (0 ≤ i ∧ i < l.length) → K σ (some (vI (-1)))) (q2 : ∀ k : Nat, i = k → k < l.length → ∀ τ, zfr [0] [0] σ τ → zis τ 0 (l.eraseIdx k) → K τ (some (vI (if zfau law least (l.eraseIdx k) = 0 then 1 else 0)))) : zC (d + 4 + 1) 57 [vR (0), vI (i)] σ K := by
  have hl := hg.2.2.1
  have hb := hg.1
  have hC := hg.1.1
  have hC4 := hg.1.2.1
  refine zC_in rfl ?_
  show zG (d + 4) 57 K 0 zfx (0, [vR (0), vI (i)], [], σ)
  refine r_aload k_57_0 rfl ?_
  refine r_getR (q := 1) k_57_1 ⟨rfl, rfl⟩ ?_
  refine r_getR (q := 2) k_57_4 ⟨rfl, rfl⟩ ?_
  refine r_iload k_57_7 rfl ?_
  refine r_call (as := [vR (2), vI (i)]) (r := []) k_57_8 rfl rfl rfl ?_
  refine s_has (r := 0) (by decide) (fun g8 e8 => ?_) (fun g8 => ?_)
  · skip
    rw [hx.2.1.1] at e8
    obtain ⟨k, hik⟩ : ∃ k : Nat, i = k := ⟨i.toNat, by omega⟩
    refine r_if_ne k_57_11 (fun _ => ?_) (fun hz => absurd hz (by decide))
    refine r_aload k_57_16 rfl ?_
    refine r_getR (q := 1) k_57_17 ⟨rfl, rfl⟩ ?_
    refine r_getR (q := 2) k_57_20 ⟨rfl, rfl⟩ ?_
    refine r_iload k_57_23 rfl ?_
    refine r_call (as := [vR (2), vI (i)]) (r := []) k_57_24 rfl rfl rfl ?_
    refine s_tout (r := 0) (by decide) (by omega) (by rw [hx.2.1.1]; omega) (by rw [hx.2.1.1]; omega) (fun τ1 f1 e1 e2 e3 => ?_)
    have hk : k < l.length := by omega
    have hle := zer_len hk
    rw [hx.2.1.1] at e1 e3
    have z1 : zis τ1 0 (l.eraseIdx k) := ⟨by rw [e1, hle]; omega, fun j hj => by rw [zlf_er]; split; exact (e2 j (by omega)).trans (hx.2.1.2 j (by omega)); exact (e3 j (by omega) (by omega)).trans (hx.2.1.2 _ (by omega))⟩
    refine r_aload k_57_27 rfl ?_
    refine r_getR (q := 1) k_57_28 ⟨rfl, rfl⟩ ?_
    refine r_getR (q := 4) k_57_31 ⟨rfl, rfl⟩ ?_
    refine r_aload k_57_34 rfl ?_
    refine r_getR (q := 1) k_57_35 ⟨rfl, rfl⟩ ?_
    refine r_getR (q := 2) k_57_38 ⟨rfl, rfl⟩ ?_
    refine r_call (as := [vR (4), vR (2)]) (r := []) k_57_41 rfl rfl rfl ?_
    refine v_faultOf (r := 0) (l := (l.eraseIdx k)) (by decide) hb (zrl_fr hx.1 f1 (by decide)) z1 (zer_col (zgd_c hg)) (by omega) ?_
    refine r_if_ne k_57_44 (fun h44 => ?_) (fun h44 => ?_)
    · skip
      refine r_const k_57_51 ?_
      refine r_iret k_57_52 ?_
      exact zKe (q2 k hik (by omega) _ f1 z1) (if_neg (by omega))
    · skip
      refine r_const k_57_47 ?_
      refine r_goto k_57_48 ?_
      refine r_iret k_57_52 ?_
      exact zKe (q2 k hik (by omega) _ f1 z1) (if_pos (by omega))
  · skip
    rw [hx.2.1.1] at g8
    refine r_if_ne k_57_11 (fun hz => absurd hz (by decide)) (fun _ => ?_)
    refine r_const k_57_14 ?_
    refine r_iret k_57_15 ?_
    exact q1 (by omega)
theorem y_tear {d : Nat} {σ : zM} {K : zM → Option zV → Prop} {C : Nat} {law least draw : Int} {l : List Int} {p : Nat → Int} (hg : zgd C law least draw l p) (hy : zYn (σ.2 12) C law least draw l p) {i : Int} (q1 : ¬ (0 ≤ i ∧ i < l.length) → K σ (some (vI (-1)))) (q2 : ∀ k : Nat, i = k → k < l.length → ∀ τ, zfr [] [12, 18, 19] σ τ → zYn (τ.2 12) C law least draw (l.eraseIdx k) p → K τ (some (vI (if zfau law least (l.eraseIdx k) = 0 then 1 else 0)))) : zC (d + 3 + 1) 112 [vR (27), vI (i)] σ K := by
  have hl := hg.2.2.1
  have hb := hg.1
  have hC := hg.1.1
  have hC4 := hg.1.2.1
  refine zC_in rfl ?_
  have lp : ∀ (n : Nat) (k m : Nat) (τ : zM), l.length - m = n → i = k → k ≤ m → m + 1 ≤ l.length → zfr [] [12] σ τ → (∀ j, j < 9 + k ∨ 9 + m ≤ j → τ.2 12 j = σ.2 12 j) → (∀ j, k ≤ j → j < m → τ.2 12 (9 + j) = σ.2 12 (9 + (j + 1))) → zG (d + 3) 112 K 0 zfx (12, [vR (27), vI (i), vI ((m : Int))], [], τ) := by
    intro n
    induction n using Nat.strongRecOn with
    | _ n ih =>
    intro k m τ hn hik g1 g2 hf ho hs
    have hle := zer_len (l := l) (i := k) (by omega)
    refine r_iload k_112_12 rfl ?_
    refine r_const k_112_13 ?_
    refine r_bin (v := (m : Int) + 1) k_112_14 (zb_add ⟨by omega, by omega⟩) ?_
    refine r_aload k_112_15 rfl ?_
    refine r_getR (q := 28) k_112_16 ⟨rfl, rfl⟩ ?_
    refine r_const k_112_19 ?_
    refine r_iald (v := (l.length : Int)) k_112_20 ⟨rfl, rfl⟩ ⟨by decide, by decide⟩ ((ho 4 (by omega)).trans hy.2.2.2.2.1) ?_
    refine r_ic_ge k_112_21 (fun h21 => ?_) (fun h21 => ?_)
    · skip
      refine r_aload k_112_50 rfl ?_
      refine r_getR (q := 28) k_112_51 ⟨rfl, rfl⟩ ?_
      refine r_const k_112_54 ?_
      refine r_dup2 k_112_55 ?_
      refine r_iald (v := (l.length : Int)) k_112_56 ⟨rfl, rfl⟩ ⟨by decide, by decide⟩ ((ho 4 (by omega)).trans hy.2.2.2.2.1) ?_
      refine r_const k_112_57 ?_
      refine r_bin (v := (l.length : Int) - 1) k_112_58 (zb_sub ⟨by omega, by omega⟩) ?_
      refine r_iast k_112_59 ⟨rfl, rfl⟩ ⟨by decide, by decide⟩ ?_
      refine r_aload k_112_60 rfl ?_
      refine r_aload k_112_61 rfl ?_
      refine r_call (as := [vR (27)]) (r := [vR (27)]) k_112_62 rfl rfl rfl ?_
      have hY : zYn ((zsetA τ 12 (zup (τ.2 12) (4 : Int).toNat ((l.length : Int) - 1))).2 12) C law least draw (l.eraseIdx k) p := by
        rw [zA_2, show (4 : Int).toNat = 4 from rfl]
        obtain ⟨a0, a1, a2, a3, a4, a5, a6⟩ := hy
        refine ⟨?_, ?_, ?_, ?_, ?_, fun j hj => ?_, fun j hj => ?_⟩
        · rw [zup_n (by decide), ho 0 (by omega)]; exact a0
        · rw [zup_n (by decide), ho 1 (by omega)]; exact a1
        · rw [zup_n (by decide), ho 2 (by omega)]; exact a2
        · rw [zup_n (by decide), ho 3 (by omega)]; exact a3
        · rw [zup_1, hle]; omega
        · rw [zup_n (by omega), ho _ (by omega)]; exact a5 j hj
        · rw [zup_n (by omega), zlf_er]; split; rw [ho _ (by omega)]; exact a6 j (by omega); rw [hs j (by omega) (by omega)]; exact a6 _ (by omega)
      have F0 : zfr [] [12] σ (zsetA τ 12 (zup (τ.2 12) (4 : Int).toNat ((l.length : Int) - 1))) := zfr_A hf (by decide)
      refine v_lay (N := (l.eraseIdx k).length) hY.2.2.2.2.1 (by omega) (fun τ1 f1 r1 => ?_)
      refine r_call (as := [vR (27), vI (((l.eraseIdx k).length : Int))]) (r := []) k_112_65 rfl rfl rfl ?_
      have z1 : zrs τ1 (l.eraseIdx k) := zYrs hY r1
      have hY1 : zYn (τ1.2 12) C law least draw (l.eraseIdx k) p := by rw [f1.2 12 (by decide)]; exact hY
      refine t_faultsl (l := l.eraseIdx k) ⟨hg.1.2.2.1, hg.1.2.2.2.1⟩ hg.1.2.2.2.2 hY1.2.1 hY1.2.2.1 z1 (zer_col (zgd_c hg)) (by omega) rfl (fun τ2 f2 => ?_)
      have F2 : zfr [] [12, 18, 19] σ τ2 := zfr_tr (zfr_tr F0 f1 (S'' := []) (A'' := [12, 18]) (by decide) (by decide)) f2 (by decide) (by decide)
      have hY2 : zYn (τ2.2 12) C law least draw (l.eraseIdx k) p := by rw [f2.2 12 (by decide)]; exact hY1
      refine r_if_ne k_112_68 (fun h68 => ?_) (fun h68 => ?_)
      · skip
        refine r_const k_112_75 ?_
        refine r_iret k_112_76 ?_
        exact zKe (q2 k hik (by omega) _ F2 hY2) (if_neg (by omega))
      · skip
        refine r_const k_112_71 ?_
        refine r_goto k_112_72 ?_
        refine r_iret k_112_76 ?_
        exact zKe (q2 k hik (by omega) _ F2 hY2) (if_pos (by omega))
    · skip
      refine r_aload k_112_24 rfl ?_
      refine r_getR (q := 28) k_112_25 ⟨rfl, rfl⟩ ?_
      refine r_const k_112_28 ?_
      refine r_iload k_112_30 rfl ?_
      refine r_bin (v := 9 + ((m : Int))) k_112_31 (zb_add ⟨by omega, by omega⟩) ?_
      refine r_aload k_112_32 rfl ?_
      refine r_getR (q := 28) k_112_33 ⟨rfl, rfl⟩ ?_
      refine r_const k_112_36 ?_
      refine r_iload k_112_38 rfl ?_
      refine r_bin (v := 9 + ((m : Int))) k_112_39 (zb_add ⟨by omega, by omega⟩) ?_
      refine r_const k_112_40 ?_
      refine r_bin (v := 9 + ((m : Int)) + 1) k_112_41 (zb_add ⟨by omega, by omega⟩) ?_
      refine r_iald (v := (σ.2 12 (9 + (m + 1)))) k_112_42 ⟨rfl, rfl⟩ ⟨by omega, by omega⟩ (by rw [show (9 + ((m : Int)) + 1 : Int).toNat = 9 + (m + 1) by omega]; exact ho _ (by omega)) ?_
      refine r_iast k_112_43 ⟨rfl, rfl⟩ ⟨by omega, by omega⟩ ?_
      refine r_iinc (v := (m : Int) + 1) (L' := [vR (27), vI (i), vI ((m : Int) + 1)]) k_112_44 rfl (zb_add ⟨by omega, by omega⟩) rfl ?_
      refine r_goto k_112_47 ?_
      refine ih _ (by omega) k (m + 1) _ rfl hik (by omega) (by omega) (zfr_A hf (by decide)) (fun j hj => ?_) (fun j h1 h2 => ?_)
      · rw [zA_2, zup_n (by omega)]; exact ho j (by omega)
      · rw [zA_2]
        by_cases hjm : j = m
        · subst hjm; rw [show (9 + (j : Int)).toNat = 9 + j by omega, zup_1]
        · rw [zup_n (by omega)]; exact hs j h1 (by omega)
  show zG (d + 3) 112 K 0 zfx (0, [vR (27), vI (i), vU], [], σ)
  refine r_aload k_112_0 rfl ?_
  refine r_iload k_112_1 rfl ?_
  refine r_call (as := [vR (27), vI (i)]) (r := []) k_112_2 rfl rfl rfl ?_
  refine y_isPale hg hy (fun g2 e2 => ?_) (fun g2 => ?_)
  · skip
    obtain ⟨k, hik⟩ : ∃ k : Nat, i = k := ⟨i.toNat, by omega⟩
    refine r_if_ne k_112_5 (fun _ => ?_) (fun hz => absurd hz (by decide))
    refine r_iload k_112_10 rfl ?_
    refine r_istore (L' := [vR (27), vI (i), vI (i)]) k_112_11 rfl ?_
    have hh := lp _ k k σ rfl hik (Nat.le_refl _) (by omega) zfr_rf (fun _ _ => rfl) (fun j h1 h2 => absurd h1 (by omega))
    rw [← hik] at hh
    exact hh
  · skip
    refine r_if_ne k_112_5 (fun hz => absurd hz (by decide)) (fun _ => ?_)
    refine r_const k_112_8 ?_
    refine r_iret k_112_9 ?_
    exact q1 (by omega)
theorem p_tear {d : Nat} {σ : zM} (h : zInv σ) {i : Int} : zC (d + 41) 57 [vR 0, vI i] σ (fun σ1 r1 => zC (d + 5) 112 [vR 27, vI i] σ1 (zpq σ1 r1)) := by
  obtain ⟨C, law, least, draw, l, p, hg, hx, hy⟩ := h.1
  refine x_tear (d := d + 36) hg hx (fun q => y_tear (d := d + 1) hg hy (fun _ => ⟨⟨_, rfl, rfl⟩, h⟩) (fun k e1 e2 => absurd ⟨by omega, by omega⟩ q)) (fun k e1 e2 τ f z => ?_)
  have hy2 : zYn (τ.2 12) C law least draw l p := by rw [f.2 12 (by decide)]; exact hy
  refine y_tear (d := d + 1) hg hy2 (fun q => absurd ⟨by omega, by omega⟩ q) (fun k2 e3 e4 υ f2 hY => ?_)
  obtain rfl : k2 = k := by omega
  refine ⟨⟨_, rfl, rfl⟩, ?_⟩
  have F : zfr [0] [0, 12, 18, 19] σ υ := zfr_tr f f2 (by decide) (by decide)
  have hle := zer_len e2
  exact ⟨⟨C, law, least, draw, l.eraseIdx k2, p, ⟨hg.1, hg.2.1, by have := hg.2.2.1; omega, fun x hx0 => hg.2.2.2.1 x (List.mem_of_mem_eraseIdx hx0), hg.2.2.2.2⟩, ⟨zrl_fr hx.1 F (by decide), zis_fr z f2 (by decide) (by decide), zpr_fr hx.2.2.1 F (by decide), (F.1 10 (by decide)).trans hx.2.2.2⟩, hY⟩, zOth_fr h.2 F (by decide) (by decide)⟩
