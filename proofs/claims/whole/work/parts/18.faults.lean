/-! contracts: stretches at an end, faults, what stands -/
theorem zb1_e {b : Bool} : zb1 b = 0 ↔ b = false := by cases b <;> decide
theorem zb1_ne {b : Bool} : ¬ zb1 b = 0 ↔ b = true := by cases b <;> decide
theorem zlike_2 {law : Int} {f : Nat → Int} {n len : Nat} (h : law = 2) : zlike law f n len = zanyb f n len := if_pos h
theorem zlike_n {law : Int} {f : Nat → Int} {n len : Nat} (h : law ≠ 2) : zlike law f n len = zeqb f n len := if_neg h
theorem zhit_0 {law : Int} {f : Nat → Int} {n len : Nat} (h : law ≠ 1) : zhit law f n len = zlike law f n len := by
  unfold zhit
  rw [decide_eq_true h, Bool.true_or, Bool.and_true]
theorem zhit_2 {law : Int} {f : Nat → Int} {fr to len : Nat} (h1 : law ≠ 1) (h2 : law ≠ 2) (hft : fr ≤ to) (hl : 2 * len ≤ to - fr) : zhit law (zsh f fr) (to - fr) len = zeqb f to len := by
  rw [zhit_0 h1, zlike_n h2, zeqb_sh hl, show fr + (to - fr) = to by omega]
theorem zhit_3 {law : Int} {f : Nat → Int} {fr to len : Nat} (h1 : law = 1) (hft : fr ≤ to) (hl : 3 * len ≤ to - fr) : zhit law (zsh f fr) (to - fr) len = (zeqb f to len && zeqb f (to - len) len) := by
  subst h1
  unfold zhit
  rw [zlike_n (by decide), zlike_n (by decide), zeqb_sh (by omega), zeqb_sh (by omega), show fr + (to - fr) = to by omega, show fr + (to - fr - len) = to - len by omega]
  rfl
theorem zhit_a {law : Int} {f : Nat → Int} {fr to len : Nat} (h1 : law = 2) (hft : fr ≤ to) (hl : 2 * len ≤ to - fr) : zhit law (zsh f fr) (to - fr) len = zanyb f to len := by
  rw [zhit_0 (by omega), zlike_2 h1, zanyb_sh hl, show fr + (to - fr) = to by omega]
theorem zends_a {law least : Int} {f : Nat → Int} {fr to : Nat} (h1 : law = 2) (hft : fr ≤ to) : zfirst (fun len => decide (2 * len ≤ to - fr)) (zanyb f to) (to - fr + 1) 1 = zends law least (zsh f fr) (to - fr) := by
  unfold zends ztimes zstart
  rw [if_neg (by omega), if_neg (by omega)]
  exact zfirst_congr _ _ (fun _ _ => rfl) (fun j _ hj => (zhit_a h1 hft (of_decide_eq_true hj)).symm)
theorem s_endw {d : Nat} {σ : zM} {K : zM → Option zV → Prop} {r : Nat} (hr : r < 4) (hL : 0 ≤ σ.1 5 ∧ σ.1 5 ≤ 3) (hM : 1 ≤ σ.1 6 ∧ σ.1 6 ≤ 9) {fr to : Nat} (hft : fr ≤ to) (hto : to ≤ 72) (hcol : ∀ k, fr ≤ k → k < to → 0 ≤ σ.2 r k ∧ σ.2 r k < 4) (q1 : K σ (some (vI ((zends (σ.1 5) (σ.1 6) (zsh (σ.2 r) fr) (to - fr) : Nat) : Int)))) : zC (d + 2 + 1) 17 [vR (4), vR (zrw r), vI (fr), vI (to)] σ K := by
  refine zC_in rfl ?_
  have lp3 : ∀ (n : Nat) (sh : Int) (st : Nat), σ.1 5 = 1 → to - fr < st + n → 1 ≤ st → st ≤ 80 → K σ (some (vI ((zfirst (fun len => decide (3 * len ≤ to - fr)) (zhit (σ.1 5) (zsh (σ.2 r) fr) (to - fr)) n st : Nat) : Int))) → zG (d + 2) 17 K 0 zfx (52, [vR (4), vR (zrw r), vI (fr), vI (to), vI (3), vI (sh), vI (st)], [], σ) := by
    intro n
    induction n using Nat.strongRecOn with
    | _ n ih =>
    intro sh st hl hn h1 h3 hq
    refine r_iload k_17_52 rfl ?_
    refine r_iload k_17_54 rfl ?_
    refine r_bin (v := st * 3) k_17_56 (zb_mul ⟨by omega, by omega⟩) ?_
    refine r_iload k_17_57 rfl ?_
    refine r_iload k_17_58 rfl ?_
    refine r_bin (v := to - fr) k_17_59 (zb_sub ⟨by omega, by omega⟩) ?_
    refine r_ic_gt k_17_60 (fun h60 => ?_) (fun h60 => ?_)
    · skip
      refine r_const k_17_84 ?_
      refine r_iret k_17_85 ?_
      exact zKe hq (by rw [zfirst_out (decide_eq_false (by omega))]; rfl)
    · skip
      refine r_aload k_17_63 rfl ?_
      refine r_iload k_17_64 rfl ?_
      refine r_iload k_17_66 rfl ?_
      refine r_iload k_17_68 rfl ?_
      refine r_call (as := [vR (zrw r), vI (st), vI (3), vI (to)]) (r := []) k_17_69 rfl (zrcv_o rfl (zrw_c hr)) rfl ?_
      refine s_rep3 (s := st) (to := to) hr (by omega) (by omega) hto ?_
      refine r_if_eq k_17_72 (fun h72 => ?_) (fun h72 => ?_)
      · skip
        refine r_iinc (v := st + 1) (L' := [vR (4), vR (zrw r), vI (fr), vI (to), vI (3), vI (sh), vI (st + 1)]) k_17_78 rfl (zb_add ⟨by omega, by omega⟩) rfl ?_
        refine r_goto k_17_81 ?_
        obtain ⟨n2, rfl⟩ : ∃ n2, n = n2 + 1 := ⟨n - 1, by omega⟩
        refine ih n2 (by omega) sh (st + 1) hl (by omega) (by omega) (by omega) ?_
        rw [zfirst_on (decide_eq_true (by omega)) ((zhit_3 hl hft (by omega)).trans (zb1_e.mp h72))] at hq
        exact hq
      · skip
        refine r_iload k_17_75 rfl ?_
        refine r_iret k_17_77 ?_
        obtain ⟨n2, rfl⟩ : ∃ n2, n = n2 + 1 := ⟨n - 1, by omega⟩
        exact zKe hq (by rw [zfirst_hit (decide_eq_true (by omega)) ((zhit_3 hl hft (by omega)).trans (zb1_ne.mp h72))])
  have lp2 : ∀ (n : Nat) (sh : Int) (st : Nat), σ.1 5 ≠ 1 → σ.1 5 ≠ 2 → to - fr < st + n → 1 ≤ st → st ≤ 80 → K σ (some (vI ((zfirst (fun len => decide (2 * len ≤ to - fr)) (zhit (σ.1 5) (zsh (σ.2 r) fr) (to - fr)) n st : Nat) : Int))) → zG (d + 2) 17 K 0 zfx (52, [vR (4), vR (zrw r), vI (fr), vI (to), vI (2), vI (sh), vI (st)], [], σ) := by
    intro n
    induction n using Nat.strongRecOn with
    | _ n ih =>
    intro sh st hl h2 hn h1 h3 hq
    refine r_iload k_17_52 rfl ?_
    refine r_iload k_17_54 rfl ?_
    refine r_bin (v := st * 2) k_17_56 (zb_mul ⟨by omega, by omega⟩) ?_
    refine r_iload k_17_57 rfl ?_
    refine r_iload k_17_58 rfl ?_
    refine r_bin (v := to - fr) k_17_59 (zb_sub ⟨by omega, by omega⟩) ?_
    refine r_ic_gt k_17_60 (fun h60 => ?_) (fun h60 => ?_)
    · skip
      refine r_const k_17_84 ?_
      refine r_iret k_17_85 ?_
      exact zKe hq (by rw [zfirst_out (decide_eq_false (by omega))]; rfl)
    · skip
      refine r_aload k_17_63 rfl ?_
      refine r_iload k_17_64 rfl ?_
      refine r_iload k_17_66 rfl ?_
      refine r_iload k_17_68 rfl ?_
      refine r_call (as := [vR (zrw r), vI (st), vI (2), vI (to)]) (r := []) k_17_69 rfl (zrcv_o rfl (zrw_c hr)) rfl ?_
      refine s_rep2 (s := st) (to := to) hr (by omega) (by omega) hto ?_
      refine r_if_eq k_17_72 (fun h72 => ?_) (fun h72 => ?_)
      · skip
        refine r_iinc (v := st + 1) (L' := [vR (4), vR (zrw r), vI (fr), vI (to), vI (2), vI (sh), vI (st + 1)]) k_17_78 rfl (zb_add ⟨by omega, by omega⟩) rfl ?_
        refine r_goto k_17_81 ?_
        obtain ⟨n2, rfl⟩ : ∃ n2, n = n2 + 1 := ⟨n - 1, by omega⟩
        refine ih n2 (by omega) sh (st + 1) hl h2 (by omega) (by omega) (by omega) ?_
        rw [zfirst_on (decide_eq_true (by omega)) ((zhit_2 hl h2 hft (by omega)).trans (zb1_e.mp h72))] at hq
        exact hq
      · skip
        refine r_iload k_17_75 rfl ?_
        refine r_iret k_17_77 ?_
        obtain ⟨n2, rfl⟩ : ∃ n2, n = n2 + 1 := ⟨n - 1, by omega⟩
        exact zKe hq (by rw [zfirst_hit (decide_eq_true (by omega)) ((zhit_2 hl h2 hft (by omega)).trans (zb1_ne.mp h72))])
  show zG (d + 2) 17 K 0 zfx (0, [vR (4), vR (zrw r), vI (fr), vI (to), vU, vU, vU], [], σ)
  refine r_aload k_17_0 rfl ?_
  refine r_getS (v := σ.1 5) k_17_1 ⟨rfl, rfl⟩ rfl ?_
  refine r_const k_17_4 ?_
  refine r_ic_ne k_17_5 (fun h5 => ?_) (fun h5 => ?_)
  · skip
    refine r_aload k_17_15 rfl ?_
    refine r_getS (v := σ.1 5) k_17_16 ⟨rfl, rfl⟩ rfl ?_
    refine r_const k_17_19 ?_
    refine r_ic_ne k_17_20 (fun h20 => ?_) (fun h20 => ?_)
    · skip
      refine r_const k_17_27 ?_
      refine r_istore (L' := [vR (4), vR (zrw r), vI (fr), vI (to), vI (2), vU, vU]) k_17_28 rfl ?_
      refine r_aload k_17_30 rfl ?_
      refine r_getS (v := σ.1 5) k_17_31 ⟨rfl, rfl⟩ rfl ?_
      refine r_const k_17_34 ?_
      refine r_ic_ne k_17_35 (fun h35 => ?_) (fun h35 => ?_)
      · skip
        refine r_const k_17_45 ?_
        refine r_istore (L' := [vR (4), vR (zrw r), vI (fr), vI (to), vI (2), vI (1), vU]) k_17_46 rfl ?_
        refine r_iload k_17_48 rfl ?_
        refine r_istore (L' := [vR (4), vR (zrw r), vI (fr), vI (to), vI (2), vI (1), vI (1)]) k_17_50 rfl ?_
        refine lp2 (to - fr + 1) 1 1 (by omega) (by omega) (by omega) (by omega) (by omega) (zKe q1 ?_)
        unfold zends ztimes zstart
        rw [if_neg (by omega), if_neg (by omega)]
      · skip
        refine r_aload k_17_38 rfl ?_
        refine r_getS (v := σ.1 6) k_17_39 ⟨rfl, rfl⟩ rfl ?_
        refine r_goto k_17_42 ?_
        refine r_istore (L' := [vR (4), vR (zrw r), vI (fr), vI (to), vI (2), vI (σ.1 6), vU]) k_17_46 rfl ?_
        refine r_iload k_17_48 rfl ?_
        refine r_istore (L' := [vR (4), vR (zrw r), vI (fr), vI (to), vI (2), vI (σ.1 6), vI (σ.1 6)]) k_17_50 rfl ?_
        obtain ⟨m, hm⟩ : ∃ m : Nat, σ.1 6 = m := ⟨(σ.1 6).toNat, by omega⟩
        rw [hm]
        refine lp2 (to - fr + 1) m m (by omega) (by omega) (by omega) (by omega) (by omega) (zKe q1 ?_)
        unfold zends ztimes zstart
        rw [if_neg (by omega), if_pos (by omega), hm]
        rfl
    · skip
      refine r_const k_17_23 ?_
      refine r_goto k_17_24 ?_
      refine r_istore (L' := [vR (4), vR (zrw r), vI (fr), vI (to), vI (3), vU, vU]) k_17_28 rfl ?_
      refine r_aload k_17_30 rfl ?_
      refine r_getS (v := σ.1 5) k_17_31 ⟨rfl, rfl⟩ rfl ?_
      refine r_const k_17_34 ?_
      refine r_ic_ne k_17_35 (fun h35 => ?_) (fun h35 => ?_)
      · skip
        refine r_const k_17_45 ?_
        refine r_istore (L' := [vR (4), vR (zrw r), vI (fr), vI (to), vI (3), vI (1), vU]) k_17_46 rfl ?_
        refine r_iload k_17_48 rfl ?_
        refine r_istore (L' := [vR (4), vR (zrw r), vI (fr), vI (to), vI (3), vI (1), vI (1)]) k_17_50 rfl ?_
        refine lp3 (to - fr + 1) 1 1 (by omega) (by omega) (by omega) (by omega) (zKe q1 ?_)
        unfold zends ztimes zstart
        rw [if_pos (by omega), if_neg (by omega)]
      · skip
        refine r_aload k_17_38 rfl ?_
        refine r_getS (v := σ.1 6) k_17_39 ⟨rfl, rfl⟩ rfl ?_
        refine r_goto k_17_42 ?_
        refine r_istore (L' := [vR (4), vR (zrw r), vI (fr), vI (to), vI (3), vI (σ.1 6), vU]) k_17_46 rfl ?_
        refine r_iload k_17_48 rfl ?_
        refine r_istore (L' := [vR (4), vR (zrw r), vI (fr), vI (to), vI (3), vI (σ.1 6), vI (σ.1 6)]) k_17_50 rfl ?_
        obtain ⟨m, hm⟩ : ∃ m : Nat, σ.1 6 = m := ⟨(σ.1 6).toNat, by omega⟩
        rw [hm]
        refine lp3 (to - fr + 1) m m (by omega) (by omega) (by omega) (by omega) (zKe q1 ?_)
        unfold zends ztimes zstart
        rw [if_pos (by omega), if_pos (by omega), hm]
        rfl
  · skip
    refine r_aload k_17_8 rfl ?_
    refine r_iload k_17_9 rfl ?_
    refine r_iload k_17_10 rfl ?_
    refine r_call (as := [vR (zrw r), vI (fr), vI (to)]) (r := []) k_17_11 rfl rfl rfl ?_
    refine s_mixed hr hft hto hcol ?_
    refine r_iret k_17_14 ?_
    exact zKe q1 (by rw [zends_a (by omega) hft])
theorem s_ends {d : Nat} {σ : zM} {K : zM → Option zV → Prop} {r : Nat} (hr : r < 4) (hL : 0 ≤ σ.1 5 ∧ σ.1 5 ≤ 3) (hM : 1 ≤ σ.1 6 ∧ σ.1 6 ≤ 9) {to : Nat} (hto : to ≤ 72) (hcol : ∀ k, k < to → 0 ≤ σ.2 r k ∧ σ.2 r k < 4) (q1 : K σ (some (vI ((zends (σ.1 5) (σ.1 6) (σ.2 r) to : Nat) : Int)))) : zC (d + 3) 17 [vR 4, vR (zrw r), vI 0, vI to] σ K := by
  have := s_endw (d := d) (fr := 0) (to := to) hr hL hM (Nat.zero_le _) hto (fun k _ h => hcol k h) (K := K) (by rw [zsh_zero]; exact q1)
  exact this
