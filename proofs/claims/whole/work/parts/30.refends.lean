/-! the reference: ends, faults, the row laid out -/
theorem zhit_1 {law : Int} {f : Nat → Int} {n len : Nat} (h : law = 1) : zhit law f n len = (zlike law f n len && zlike law f (n - len) len) := by
  unfold zhit
  rw [decide_eq_false (by omega), Bool.false_or]
theorem t_ends {d : Nat} {σ : zM} {K : zM → Option zV → Prop} {law least : Int} (hL : 0 ≤ law ∧ law ≤ 3) (hM : 1 ≤ least ∧ least ≤ 9) (h12 : σ.2 12 1 = law) (h13 : σ.2 12 2 = least) {en : Nat} (hen : en ≤ 80) (hc : ∀ k, k < en → 0 ≤ σ.2 18 k ∧ σ.2 18 k < 4) (q1 : ∀ τ, zfr [] [19] σ τ → K τ (some (vI ((zends law least (σ.2 18) en : Nat) : Int)))) : zC (d + 1 + 1) 80 [vR (27), vI (en)] σ K := by
  refine zC_in rfl ?_
  have lp3 : ∀ (n : Nat) (len : Nat) (τ : zM), law = 1 → en < len + n → 1 ≤ len → len ≤ 90 → zfr [] [19] σ τ → (∀ υ, zfr [] [19] σ υ → K υ (some (vI ((zfirst (fun len => decide (3 * len ≤ en)) (zhit law (σ.2 18) en) n len : Nat) : Int)))) → zG (d + 1) 80 K 0 zfx (37, [vR (27), vI (en), vI (3), vI (len)], [], τ) := by
    intro n
    induction n using Nat.strongRecOn with
    | _ n ih =>
    intro len τ hl hn g1 g2 hf hq
    refine r_iload k_80_37 rfl ?_
    refine r_iload k_80_38 rfl ?_
    refine r_bin (v := 3 * len) k_80_39 (zb_mul ⟨by omega, by omega⟩) ?_
    refine r_iload k_80_40 rfl ?_
    refine r_ic_gt k_80_41 (fun h41 => ?_) (fun h41 => ?_)
    · skip
      refine r_const k_80_77 ?_
      refine r_iret k_80_78 ?_
      exact zKe (hq _ hf) (by rw [zfirst_out (decide_eq_false (by omega))]; rfl)
    · skip
      refine r_aload k_80_44 rfl ?_
      refine r_iload k_80_45 rfl ?_
      refine r_iload k_80_46 rfl ?_
      refine r_call (as := [vR (27), vI (en), vI (len)]) (r := []) k_80_47 rfl rfl rfl ?_
      refine t_isLike (law := law) (en := en) (len := len) ((congrFun (hf.2 12 (by decide)) 1).trans h12) (by omega) (by omega) (fun k g1 g2 => by rw [hf.2 18 (by decide)]; exact hc k (by omega)) (fun τ1 f1 => ?_)
      rw [hf.2 18 (by decide)]
      have F1 := zfr_2 hf f1 (by decide) (by decide)
      refine r_if_eq k_80_50 (fun h50 => ?_) (fun h50 => ?_)
      · skip
        refine r_iinc (v := len + 1) (L' := [vR (27), vI (en), vI (3), vI (len + 1)]) k_80_71 rfl (zb_add ⟨by omega, by omega⟩) rfl ?_
        refine r_goto k_80_74 ?_
        obtain ⟨n2, rfl⟩ : ∃ n2, n = n2 + 1 := ⟨n - 1, by omega⟩
        rw [zfirst_on (decide_eq_true (by omega)) ((zhit_1 hl).trans (by rw [zb1_e.mp h50]; rfl))] at hq
        exact ih n2 (by omega) (len + 1) _ hl (by omega) (by omega) (by omega) F1 hq
      · skip
        refine r_iload k_80_53 rfl ?_
        refine r_const k_80_54 ?_
        refine r_ic_eq k_80_55 (fun hz => absurd hz (by decide)) (fun _ => ?_)
        refine r_aload k_80_58 rfl ?_
        refine r_iload k_80_59 rfl ?_
        refine r_iload k_80_60 rfl ?_
        refine r_bin (v := en - len) k_80_61 (zb_sub ⟨by omega, by omega⟩) ?_
        refine r_iload k_80_62 rfl ?_
        refine r_call (as := [vR (27), vI (en - len), vI (len)]) (r := []) k_80_63 rfl rfl rfl ?_
        have e2 : (en - len : Int) = ((en - len : Nat) : Int) := by omega
        rw [e2]
        refine t_isLike (law := law) (en := (en - len)) (len := len) ((congrFun (F1.2 12 (by decide)) 1).trans h12) (by omega) (by omega) (fun k g1 g2 => by rw [F1.2 18 (by decide)]; exact hc k (by omega)) (fun τ2 f2 => ?_)
        rw [F1.2 18 (by decide)]
        have F2 := zfr_2 F1 f2 (by decide) (by decide)
        refine r_if_eq k_80_66 (fun h66 => ?_) (fun h66 => ?_)
        · skip
          refine r_iinc (v := len + 1) (L' := [vR (27), vI (en), vI (3), vI (len + 1)]) k_80_71 rfl (zb_add ⟨by omega, by omega⟩) rfl ?_
          refine r_goto k_80_74 ?_
          obtain ⟨n2, rfl⟩ : ∃ n2, n = n2 + 1 := ⟨n - 1, by omega⟩
          rw [zfirst_on (decide_eq_true (by omega)) ((zhit_1 hl).trans (by rw [zb1_e.mp h66, Bool.and_false]))] at hq
          exact ih n2 (by omega) (len + 1) _ hl (by omega) (by omega) (by omega) F2 hq
        · skip
          refine r_iload k_80_69 rfl ?_
          refine r_iret k_80_70 ?_
          obtain ⟨n2, rfl⟩ : ∃ n2, n = n2 + 1 := ⟨n - 1, by omega⟩
          exact zKe (hq _ F2) (by rw [zfirst_hit (decide_eq_true (by omega)) ((zhit_1 hl).trans (by rw [zb1_ne.mp h50, zb1_ne.mp h66]; rfl))])
  have lp2 : ∀ (n : Nat) (len : Nat) (τ : zM), law ≠ 1 → en < len + n → 1 ≤ len → len ≤ 90 → zfr [] [19] σ τ → (∀ υ, zfr [] [19] σ υ → K υ (some (vI ((zfirst (fun len => decide (2 * len ≤ en)) (zhit law (σ.2 18) en) n len : Nat) : Int)))) → zG (d + 1) 80 K 0 zfx (37, [vR (27), vI (en), vI (2), vI (len)], [], τ) := by
    intro n
    induction n using Nat.strongRecOn with
    | _ n ih =>
    intro len τ hl hn g1 g2 hf hq
    refine r_iload k_80_37 rfl ?_
    refine r_iload k_80_38 rfl ?_
    refine r_bin (v := 2 * len) k_80_39 (zb_mul ⟨by omega, by omega⟩) ?_
    refine r_iload k_80_40 rfl ?_
    refine r_ic_gt k_80_41 (fun h41 => ?_) (fun h41 => ?_)
    · skip
      refine r_const k_80_77 ?_
      refine r_iret k_80_78 ?_
      exact zKe (hq _ hf) (by rw [zfirst_out (decide_eq_false (by omega))]; rfl)
    · skip
      refine r_aload k_80_44 rfl ?_
      refine r_iload k_80_45 rfl ?_
      refine r_iload k_80_46 rfl ?_
      refine r_call (as := [vR (27), vI (en), vI (len)]) (r := []) k_80_47 rfl rfl rfl ?_
      refine t_isLike (law := law) (en := en) (len := len) ((congrFun (hf.2 12 (by decide)) 1).trans h12) (by omega) (by omega) (fun k g1 g2 => by rw [hf.2 18 (by decide)]; exact hc k (by omega)) (fun τ3 f3 => ?_)
      rw [hf.2 18 (by decide)]
      have F3 := zfr_2 hf f3 (by decide) (by decide)
      refine r_if_eq k_80_50 (fun h50 => ?_) (fun h50 => ?_)
      · skip
        refine r_iinc (v := len + 1) (L' := [vR (27), vI (en), vI (2), vI (len + 1)]) k_80_71 rfl (zb_add ⟨by omega, by omega⟩) rfl ?_
        refine r_goto k_80_74 ?_
        obtain ⟨n2, rfl⟩ : ∃ n2, n = n2 + 1 := ⟨n - 1, by omega⟩
        rw [zfirst_on (decide_eq_true (by omega)) ((zhit_0 hl).trans (zb1_e.mp h50))] at hq
        exact ih n2 (by omega) (len + 1) _ hl (by omega) (by omega) (by omega) F3 hq
      · skip
        refine r_iload k_80_53 rfl ?_
        refine r_const k_80_54 ?_
        refine r_ic_eq k_80_55 (fun _ => ?_) (fun hz => absurd hz (by decide))
        refine r_iload k_80_69 rfl ?_
        refine r_iret k_80_70 ?_
        obtain ⟨n2, rfl⟩ : ∃ n2, n = n2 + 1 := ⟨n - 1, by omega⟩
        exact zKe (hq _ F3) (by rw [zfirst_hit (decide_eq_true (by omega)) ((zhit_0 hl).trans (zb1_ne.mp h50))])
  show zG (d + 1) 80 K 0 zfx (0, [vR (27), vI (en), vU, vU], [], σ)
  refine r_aload k_80_0 rfl ?_
  refine r_getR (q := 28) k_80_1 ⟨rfl, rfl⟩ ?_
  refine r_const k_80_4 ?_
  refine r_iald (v := law) k_80_5 ⟨rfl, rfl⟩ ⟨by decide, by decide⟩ h12 ?_
  refine r_const k_80_6 ?_
  refine r_ic_ne k_80_7 (fun h7 => ?_) (fun h7 => ?_)
  · skip
    refine r_const k_80_14 ?_
    refine r_istore (L' := [vR (27), vI (en), vI (2), vU]) k_80_15 rfl ?_
    refine r_aload k_80_16 rfl ?_
    refine r_getR (q := 28) k_80_17 ⟨rfl, rfl⟩ ?_
    refine r_const k_80_20 ?_
    refine r_iald (v := law) k_80_21 ⟨rfl, rfl⟩ ⟨by decide, by decide⟩ h12 ?_
    refine r_const k_80_22 ?_
    refine r_ic_ne k_80_23 (fun h23 => ?_) (fun h23 => ?_)
    · skip
      refine r_const k_80_35 ?_
      refine r_istore (L' := [vR (27), vI (en), vI (2), vI (1)]) k_80_36 rfl ?_
      refine lp2 (en + 1) 1 σ (by omega) (by omega) (by omega) (by omega) zfr_rf (fun υ f => zKe (q1 υ f) ?_)
      unfold zends ztimes zstart
      rw [if_neg (by omega), if_neg (by omega)]
    · skip
      refine r_aload k_80_26 rfl ?_
      refine r_getR (q := 28) k_80_27 ⟨rfl, rfl⟩ ?_
      refine r_const k_80_30 ?_
      refine r_iald (v := least) k_80_31 ⟨rfl, rfl⟩ ⟨by decide, by decide⟩ h13 ?_
      refine r_goto k_80_32 ?_
      refine r_istore (L' := [vR (27), vI (en), vI (2), vI (least)]) k_80_36 rfl ?_
      obtain ⟨m, hm⟩ : ∃ m : Nat, least = m := ⟨least.toNat, by omega⟩
      subst hm
      refine lp2 (en + 1) m σ (by omega) (by omega) (by omega) (by omega) zfr_rf (fun υ f => zKe (q1 υ f) ?_)
      unfold zends ztimes zstart
      rw [if_neg (by omega), if_pos (by omega)]
      rfl
  · skip
    refine r_const k_80_10 ?_
    refine r_goto k_80_11 ?_
    refine r_istore (L' := [vR (27), vI (en), vI (3), vU]) k_80_15 rfl ?_
    refine r_aload k_80_16 rfl ?_
    refine r_getR (q := 28) k_80_17 ⟨rfl, rfl⟩ ?_
    refine r_const k_80_20 ?_
    refine r_iald (v := law) k_80_21 ⟨rfl, rfl⟩ ⟨by decide, by decide⟩ h12 ?_
    refine r_const k_80_22 ?_
    refine r_ic_ne k_80_23 (fun h23 => ?_) (fun h23 => ?_)
    · skip
      refine r_const k_80_35 ?_
      refine r_istore (L' := [vR (27), vI (en), vI (3), vI (1)]) k_80_36 rfl ?_
      refine lp3 (en + 1) 1 σ (by omega) (by omega) (by omega) (by omega) zfr_rf (fun υ f => zKe (q1 υ f) ?_)
      unfold zends ztimes zstart
      rw [if_pos (by omega), if_neg (by omega)]
    · skip
      refine r_aload k_80_26 rfl ?_
      refine r_getR (q := 28) k_80_27 ⟨rfl, rfl⟩ ?_
      refine r_const k_80_30 ?_
      refine r_iald (v := least) k_80_31 ⟨rfl, rfl⟩ ⟨by decide, by decide⟩ h13 ?_
      refine r_goto k_80_32 ?_
      refine r_istore (L' := [vR (27), vI (en), vI (3), vI (least)]) k_80_36 rfl ?_
      obtain ⟨m, hm⟩ : ∃ m : Nat, least = m := ⟨least.toNat, by omega⟩
      subst hm
      refine lp3 (en + 1) m σ (by omega) (by omega) (by omega) (by omega) zfr_rf (fun υ f => zKe (q1 υ f) ?_)
      unfold zends ztimes zstart
      rw [if_pos (by omega), if_pos (by omega)]
      rfl
theorem t_faults {d : Nat} {σ : zM} {K : zM → Option zV → Prop} {law least : Int} (hL : 0 ≤ law ∧ law ≤ 3) (hM : 1 ≤ least ∧ least ≤ 9) (h12 : σ.2 12 1 = law) (h13 : σ.2 12 2 = least) {N : Nat} (hen : N ≤ 80) (hc : ∀ k, k < N → 0 ≤ σ.2 18 k ∧ σ.2 18 k < 4) (q1 : ∀ τ, zfr [] [19] σ τ → K τ (some (vI ((zflt law least (σ.2 18) N : Nat) : Int)))) : zC (d + 2 + 1) 81 [vR (27), vI ((N : Int))] σ K := by
  refine zC_in rfl ?_
  have lp : ∀ (n : Nat) (e : Nat) (τ : zM), N < e + n → 1 ≤ e → e ≤ 90 → zfr [] [19] σ τ → (∀ υ, zfr [] [19] σ υ → K υ (some (vI ((zfirst (fun e => decide (e ≤ N)) (fun e => decide (zends law least (σ.2 18) e ≠ 0)) n e : Nat) : Int)))) → zG (d + 2) 81 K 0 zfx (2, [vR (27), vI ((N : Int)), vI ((e : Int))], [], τ) := by
    intro n
    induction n using Nat.strongRecOn with
    | _ n ih =>
    intro e τ hn g1 g2 hf hq
    refine r_iload k_81_2 rfl ?_
    refine r_iload k_81_3 rfl ?_
    refine r_ic_gt k_81_4 (fun h4 => ?_) (fun h4 => ?_)
    · skip
      refine r_const k_81_23 ?_
      refine r_iret k_81_24 ?_
      exact zKe (hq _ hf) (by rw [zfirst_out (decide_eq_false (by omega))]; rfl)
    · skip
      refine r_aload k_81_7 rfl ?_
      refine r_iload k_81_8 rfl ?_
      refine r_call (as := [vR (27), vI ((e : Int))]) (r := []) k_81_9 rfl rfl rfl ?_
      refine t_ends (en := e) hL hM ((congrFun (hf.2 12 (by decide)) 1).trans h12) ((congrFun (hf.2 12 (by decide)) 2).trans h13) (by omega) (fun k g => by rw [hf.2 18 (by decide)]; exact hc k (by omega)) (fun τ4 f4 => ?_)
      rw [hf.2 18 (by decide)]
      have F4 := zfr_2 hf f4 (by decide) (by decide)
      refine r_if_le k_81_12 (fun h12 => ?_) (fun h12 => ?_)
      · skip
        refine r_iinc (v := (e : Int) + 1) (L' := [vR (27), vI ((N : Int)), vI ((e : Int) + 1)]) k_81_17 rfl (zb_add ⟨by omega, by omega⟩) rfl ?_
        refine r_goto k_81_20 ?_
        obtain ⟨n2, rfl⟩ : ∃ n2, n = n2 + 1 := ⟨n - 1, by omega⟩
        rw [zfirst_on (decide_eq_true (by omega)) (decide_eq_false (by omega))] at hq
        exact ih n2 (by omega) (e + 1) _ (by omega) (by omega) (by omega) F4 hq
      · skip
        refine r_iload k_81_15 rfl ?_
        refine r_iret k_81_16 ?_
        obtain ⟨n2, rfl⟩ : ∃ n2, n = n2 + 1 := ⟨n - 1, by omega⟩
        exact zKe (hq _ F4) (by rw [zfirst_hit (decide_eq_true (by omega)) (decide_eq_true (by omega))])
  show zG (d + 2) 81 K 0 zfx (0, [vR (27), vI ((N : Int)), vU], [], σ)
  refine r_const k_81_0 ?_
  refine r_istore (L' := [vR (27), vI ((N : Int)), vI (1)]) k_81_1 rfl ?_
  exact lp (N + 1) 1 σ (by omega) (by omega) (by omega) zfr_rf q1
theorem v_lay {d : Nat} {σ : zM} {K : zM → Option zV → Prop} {N : Nat} (h14 : σ.2 12 4 = (N : Int)) (hN : N ≤ 48) (q1 : ∀ τ, zfr [] [18] σ τ → (∀ j, j < N → τ.2 18 j = σ.2 12 (9 + j)) → K τ (some (vI (N : Int)))) : zC (d + 1) 82 [vR (27)] σ K := by
  refine zC_in rfl ?_
  have lp : ∀ (n : Nat) (k : Nat) (τ : zM), N - k = n → k ≤ N → zfr [] [18] σ τ → (∀ j, j < k → τ.2 18 j = σ.2 12 (9 + j)) → zG (d) 82 K 0 zfx (2, [vR (27), vI ((k : Int))], [], τ) := by
    intro n
    induction n using Nat.strongRecOn with
    | _ n ih =>
    intro k τ hn g1 hf ha
    refine r_iload k_82_2 rfl ?_
    refine r_aload k_82_3 rfl ?_
    refine r_getR (q := 28) k_82_4 ⟨rfl, rfl⟩ ?_
    refine r_const k_82_7 ?_
    refine r_iald (v := (N : Int)) k_82_8 ⟨rfl, rfl⟩ ⟨by decide, by decide⟩ ((congrFun (hf.2 12 (by decide)) 4).trans h14) ?_
    refine r_ic_ge k_82_9 (fun h9 => ?_) (fun h9 => ?_)
    · skip
      refine r_aload k_82_33 rfl ?_
      refine r_getR (q := 28) k_82_34 ⟨rfl, rfl⟩ ?_
      refine r_const k_82_37 ?_
      refine r_iald (v := (N : Int)) k_82_38 ⟨rfl, rfl⟩ ⟨by decide, by decide⟩ ((congrFun (hf.2 12 (by decide)) 4).trans h14) ?_
      refine r_iret k_82_39 ?_
      exact q1 _ hf (fun j hj => ha j (by omega))
    · skip
      refine r_aload k_82_12 rfl ?_
      refine r_getR (q := 34) k_82_13 ⟨rfl, rfl⟩ ?_
      refine r_iload k_82_16 rfl ?_
      refine r_aload k_82_17 rfl ?_
      refine r_getR (q := 28) k_82_18 ⟨rfl, rfl⟩ ?_
      refine r_const k_82_21 ?_
      refine r_iload k_82_23 rfl ?_
      refine r_bin (v := 9 + ((k : Int))) k_82_24 (zb_add ⟨by omega, by omega⟩) ?_
      refine r_iald (v := (σ.2 12 (9 + k))) k_82_25 ⟨rfl, rfl⟩ ⟨by omega, by omega⟩ (by rw [show (9 + ((k : Int)) : Int).toNat = 9 + k by omega, hf.2 12 (by decide)]) ?_
      refine r_iast k_82_26 ⟨rfl, rfl⟩ ⟨by omega, by omega⟩ ?_
      refine r_iinc (v := (k : Int) + 1) (L' := [vR (27), vI ((k : Int) + 1)]) k_82_27 rfl (zb_add ⟨by omega, by omega⟩) rfl ?_
      refine r_goto k_82_30 ?_
      refine ih _ (by omega) (k + 1) _ rfl (by omega) (zfr_A hf (by decide)) (fun j hj => ?_)
      rw [zA_2, show ((k : Nat) : Int).toNat = k by omega]
      by_cases hjk : j = k
      · subst hjk; exact zup_1 _ _ _
      · rw [zup_n hjk]; exact ha j (by omega)
  show zG (d) 82 K 0 zfx (0, [vR (27), vU], [], σ)
  refine r_const k_82_0 ?_
  refine r_istore (L' := [vR (27), vI (0)]) k_82_1 rfl ?_
  exact lp _ 0 σ rfl (by omega) zfr_rf (fun j hj => by omega)
/-- the set of those of the first n with P, as a number -/
def zset (P : Nat → Bool) : Nat → Int
  | 0 => 0
  | n + 1 => zset P n + (if P n = true then (2 : Int) ^ n else 0)
theorem zset_congr {P Q : Nat → Bool} : ∀ n, (∀ k, k < n → P k = Q k) → zset P n = zset Q n
  | 0, _ => rfl
  | n + 1, h => by unfold zset; rw [zset_congr n (fun k hk => h k (by omega)), h n (by omega)]
theorem zset_or {P : Nat → Bool} {c : Nat} (hc : c < 4) : zbin 4 (zset P c) (zbin 5 1 (c : Int)) = zset P c + (2 : Int) ^ c := by
  have g : ∀ (b0 b1 b2 : Bool) (x0 x1 x2 : Int), x0 = (if b0 = true then (2 : Int) ^ 0 else 0) → x1 = (if b1 = true then (2 : Int) ^ 1 else 0) → x2 = (if b2 = true then (2 : Int) ^ 2 else 0) → zbin 4 0 (zbin 5 1 ((0 : Nat) : Int)) = 0 + (2 : Int) ^ 0 ∧ zbin 4 (0 + x0) (zbin 5 1 ((1 : Nat) : Int)) = 0 + x0 + (2 : Int) ^ 1 ∧ zbin 4 (0 + x0 + x1) (zbin 5 1 ((2 : Nat) : Int)) = 0 + x0 + x1 + (2 : Int) ^ 2 ∧ zbin 4 (0 + x0 + x1 + x2) (zbin 5 1 ((3 : Nat) : Int)) = 0 + x0 + x1 + x2 + (2 : Int) ^ 3 := by
    intro b0 b1 b2 x0 x1 x2 h0 h1 h2
    subst h0; subst h1; subst h2
    cases b0 <;> cases b1 <;> cases b2 <;> decide +kernel
  have h := g (P 0) (P 1) (P 2) _ _ _ rfl rfl rfl
  match c, hc with
  | 0, _ => exact h.1
  | 1, _ => exact h.2.1
  | 2, _ => exact h.2.2.1
  | 3, _ => exact h.2.2.2
theorem zset_or0 {P : Nat → Bool} {c : Nat} (hc : c < 4) : zbin 4 (zset P c) 0 = zset P c := by
  have g : ∀ (b0 b1 b2 : Bool) (x0 x1 x2 : Int), x0 = (if b0 = true then (2 : Int) ^ 0 else 0) → x1 = (if b1 = true then (2 : Int) ^ 1 else 0) → x2 = (if b2 = true then (2 : Int) ^ 2 else 0) → zbin 4 0 0 = 0 ∧ zbin 4 (0 + x0) 0 = 0 + x0 ∧ zbin 4 (0 + x0 + x1) 0 = 0 + x0 + x1 ∧ zbin 4 (0 + x0 + x1 + x2) 0 = 0 + x0 + x1 + x2 := by
    intro b0 b1 b2 x0 x1 x2 h0 h1 h2
    subst h0; subst h1; subst h2
    cases b0 <;> cases b1 <;> cases b2 <;> decide +kernel
  have h := g (P 0) (P 1) (P 2) _ _ _ rfl rfl rfl
  match c, hc with
  | 0, _ => exact h.1
  | 1, _ => exact h.2.1
  | 2, _ => exact h.2.2.1
  | 3, _ => exact h.2.2.2
