/-! what may come; how far: class and reference -/
theorem zok_t {law least : Int} {l : List Int} {c : Nat} (h : zend law least (l ++ [(c : Int)]) = 0) : zok law least l c = true := decide_eq_true h
theorem zok_f {law least : Int} {l : List Int} {c : Nat} (h : zend law least (l ++ [(c : Int)]) ≠ 0) : ¬ zok law least l c = true := by rw [show zok law least l c = false from decide_eq_false h]; decide
def zrs (σ : zM) (l : List Int) : Prop := ∀ k, k < l.length → σ.2 18 k = zlf l k
def zmay (C : Nat) (law least : Int) (l : List Int) : Int := if zfau law least l = 0 then zset (zok law least l) C else 0
def zgo (C : Nat) (law least : Int) (n : Nat) (l : List Int) : List Int := if zfau law least l = 0 then (zvis C law least n l l).1 else l
section LT
variable {d : Nat} {σ : zM} {K : zM → Option zV → Prop} {law least : Int} {l : List Int}
theorem zrs_c (h : zrs σ l) (hc : zcol l) : ∀ k, k < l.length → 0 ≤ σ.2 18 k ∧ σ.2 18 k < 4 := fun k hk => by rw [h k hk]; exact zcol_k hc hk
theorem zrs_fr {S A : List Nat} {τ : zM} (h : zrs σ l) (hf : zfr S A σ τ) (h2 : 18 ∉ A) : zrs τ l := fun k hk => by rw [hf.2 18 h2]; exact h k hk
theorem zrs_t (h : zrs σ l) (n : Nat) : zrs σ (l.take n) := fun k hk => by
  rw [List.length_take] at hk
  rw [zlf_t (by omega)]; exact h k (by omega)
theorem t_endsl (hL : 0 ≤ law ∧ law ≤ 3) (hM : 1 ≤ least ∧ least ≤ 9) (h12 : σ.2 12 1 = law) (h13 : σ.2 12 2 = least) (hz : zrs σ l) (hc : zcol l) (hl : l.length ≤ 80) {en : Int} (he : en = l.length) (q1 : ∀ τ, zfr [] [19] σ τ → K τ (some (vI ((zend law least l : Nat) : Int)))) : zC (d + 2) 80 [vR 27, vI en] σ K := by
  subst he
  exact t_ends hL hM h12 h13 hl (zrs_c hz hc) (fun τ f => zKe (q1 τ f) (by rw [zend, zends_congr (g := σ.2 18) (fun k hk => (hz k hk).symm)]))
theorem t_faultsl (hL : 0 ≤ law ∧ law ≤ 3) (hM : 1 ≤ least ∧ least ≤ 9) (h12 : σ.2 12 1 = law) (h13 : σ.2 12 2 = least) (hz : zrs σ l) (hc : zcol l) (hl : l.length ≤ 80) {en : Int} (he : en = l.length) (q1 : ∀ τ, zfr [] [19] σ τ → K τ (some (vI ((zfau law least l : Nat) : Int)))) : zC (d + 3) 81 [vR 27, vI en] σ K := by
  subst he
  exact t_faults hL hM h12 h13 hl (zrs_c hz hc) (fun τ f => zKe (q1 τ f) (by rw [zfau, zflt_congr (g := σ.2 18) (fun k hk => (hz k hk).symm)]))
theorem zrs_put {c : Int} {k : Nat} (h : zrs σ l) (hk : k = l.length) : zrs (zsetA σ 18 (zup (σ.2 18) k c)) (l ++ [c]) := fun j hj => by
  rw [zA_2]
  subst hk
  by_cases hjl : j < l.length
  · rw [zup_n (by omega), zlf_l hjl]; exact h j hjl
  · have e : j = l.length := by rw [zlen1] at hj; omega
    subst e
    rw [zup_1, zlf_e]
end LT
theorem t_may {d : Nat} {σ : zM} {K : zM → Option zV → Prop} {C : Nat} {law least : Int} {l : List Int} (hL : 0 ≤ law ∧ law ≤ 3) (hM : 1 ≤ least ∧ least ≤ 9) (hC : C ≤ 4) (h10 : σ.2 12 0 = (C : Int)) (h12 : σ.2 12 1 = law) (h13 : σ.2 12 2 = least) (hrs : zrs σ l) (hc : zcol l) (hl : l.length ≤ 78) (q1 : ∀ τ, zfr [] [18, 19] σ τ → zrs τ l → K τ (some (vI (zset (zok law least l) C)))) : zC (d + 3) 83 [vR 27, vI l.length] σ K := by
  refine zC_in rfl ?_
  have lp : ∀ (n : Nat) (c : Nat) (τ : zM), C - c = n → c ≤ C → zfr [] [18, 19] σ τ → zrs τ l → zG (d + 2) 83 K 0 zfx (4, [vR (27), vI ((l.length : Int)), vI ((zset (zok law least l) c)), vI ((c : Int))], [], τ) := by
    intro n
    induction n using Nat.strongRecOn with
    | _ n ih =>
    intro c τ hn g1 hf hrs
    refine r_iload k_83_4 rfl ?_
    refine r_aload k_83_5 rfl ?_
    refine r_getR (q := 28) k_83_6 ⟨rfl, rfl⟩ ?_
    refine r_const k_83_9 ?_
    refine r_iald (v := (C : Int)) k_83_10 ⟨rfl, rfl⟩ ⟨by decide, by decide⟩ ((congrFun (hf.2 12 (by decide)) 0).trans h10) ?_
    refine r_ic_ge k_83_11 (fun h11 => ?_) (fun h11 => ?_)
    · skip
      refine r_iload k_83_47 rfl ?_
      refine r_iret k_83_48 ?_
      have e : c = C := by omega
      subst e
      exact q1 _ hf hrs
    · skip
      refine r_aload k_83_14 rfl ?_
      refine r_getR (q := 34) k_83_15 ⟨rfl, rfl⟩ ?_
      refine r_iload k_83_18 rfl ?_
      refine r_iload k_83_19 rfl ?_
      refine r_iast k_83_20 ⟨rfl, rfl⟩ ⟨by omega, by omega⟩ ?_
      refine r_iload k_83_21 rfl ?_
      refine r_aload k_83_22 rfl ?_
      refine r_iload k_83_23 rfl ?_
      refine r_const k_83_24 ?_
      refine r_bin (v := (l.length : Int) + 1) k_83_25 (zb_add ⟨by omega, by omega⟩) ?_
      refine r_call (as := [vR (27), vI ((l.length : Int) + 1)]) (r := [vI ((zset (zok law least l) c))]) k_83_26 rfl rfl rfl ?_
      have F5a : zfr [] [18, 19] σ (zsetA τ 18 (zup (τ.2 18) ((l.length : Int) : Int).toNat ((c : Int)))) := zfr_A hf (by decide)
      refine t_endsl (l := l ++ [(c : Int)]) hL hM ((congrFun (F5a.2 12 (by decide)) 1).trans h12) ((congrFun (F5a.2 12 (by decide)) 2).trans h13) (zrs_put hrs (by omega)) (zcol_a hc (by omega) (by omega)) (by rw [zlen1]; omega) (by rw [zlen1]; omega) (fun τ5 f5 => ?_)
      have F5 := zfr_2 F5a f5 (by decide) (by decide)
      have R5 : zrs τ5 l := fun j hj => by rw [f5.2 18 (by decide), zA_2, zup_n (by omega)]; exact hrs j hj
      refine r_if_ne k_83_29 (fun h29 => ?_) (fun h29 => ?_)
      · skip
        refine r_const k_83_38 ?_
        refine r_bin (v := (zset (zok law least l) (c + 1))) k_83_39 (by rw [zset_or0 (by omega), zset, if_neg (zok_f (by omega))]; omega) ?_
        refine r_istore (L' := [vR (27), vI ((l.length : Int)), vI ((zset (zok law least l) (c + 1))), vI ((c : Int))]) k_83_40 rfl ?_
        refine r_iinc (v := (c : Int) + 1) (L' := [vR (27), vI ((l.length : Int)), vI ((zset (zok law least l) (c + 1))), vI ((c : Int) + 1)]) k_83_41 rfl (zb_add ⟨by omega, by omega⟩) rfl ?_
        refine r_goto k_83_44 ?_
        exact ih _ (by omega) (c + 1) _ rfl (by omega) F5 R5
      · skip
        refine r_const k_83_32 ?_
        refine r_iload k_83_33 rfl ?_
        refine r_bin (v := zbin 5 1 ((c : Int))) k_83_34 rfl ?_
        refine r_goto k_83_35 ?_
        refine r_bin (v := (zset (zok law least l) (c + 1))) k_83_39 (by rw [zset_or (by omega), zset, if_pos (zok_t (by omega))]) ?_
        refine r_istore (L' := [vR (27), vI ((l.length : Int)), vI ((zset (zok law least l) (c + 1))), vI ((c : Int))]) k_83_40 rfl ?_
        refine r_iinc (v := (c : Int) + 1) (L' := [vR (27), vI ((l.length : Int)), vI ((zset (zok law least l) (c + 1))), vI ((c : Int) + 1)]) k_83_41 rfl (zb_add ⟨by omega, by omega⟩) rfl ?_
        refine r_goto k_83_44 ?_
        exact ih _ (by omega) (c + 1) _ rfl (by omega) F5 R5
  show zG (d + 2) 83 K 0 zfx (0, [vR (27), vI ((l.length : Int)), vU, vU], [], σ)
  refine r_const k_83_0 ?_
  refine r_istore (L' := [vR (27), vI ((l.length : Int)), vI (0), vU]) k_83_1 rfl ?_
  refine r_const k_83_2 ?_
  refine r_istore (L' := [vR (27), vI ((l.length : Int)), vI (0), vI (0)]) k_83_3 rfl ?_
  exact lp _ 0 σ rfl (by omega) zfr_rf hrs
theorem v_open {d : Nat} {σ : zM} {K : zM → Option zV → Prop} {C : Nat} {law least : Int} {l : List Int} {n : Nat} (hb : zbd C law least) (hw : zrl σ C law least) (hz : zis σ 0 l) (hc : zcol l) (hl : l.length ≤ 48) (hn : n ≤ l.length) (q1 : ∀ τ, zfr [2] [2] σ τ → K τ (some (vI (zmay C law least (l.take n))))) : zC (d + 5) 40 [vR 0, vI n] σ K := by
  have F0 : zfr [2] [2] σ σ := zfr_rf
  have hC := hb.1
  have hC4 := hb.2.1
  have hct := zcol_t hc n
  have hlt : (l.take n).length = n := by rw [List.length_take]; omega
  refine zC_in rfl ?_
  have lp : ∀ (n0 : Nat) (c : Nat) (τ : zM), C - c = n0 → c ≤ C → zfau law least (l.take n) = 0 → zrl τ C law least → zis τ 2 (l.take n) → zfr [2] [2] σ τ → zG (d + 4) 40 K 0 zfx (38, [vR (0), vI ((n : Int)), vI ((zset (zok law least (l.take n)) c)), vI ((c : Int))], [], τ) := by
    intro n0
    induction n0 using Nat.strongRecOn with
    | _ n0 ih =>
    intro c τ hm g1 hfa W1 hz1 F1
    refine r_iload k_40_38 rfl ?_
    refine r_aload k_40_39 rfl ?_
    refine r_getR (q := 1) k_40_40 ⟨rfl, rfl⟩ ?_
    refine r_getR (q := 4) k_40_43 ⟨rfl, rfl⟩ ?_
    refine r_getS (v := C) k_40_46 ⟨rfl, rfl⟩ W1.1 ?_
    refine r_ic_ge k_40_49 (fun h49 => ?_) (fun h49 => ?_)
    · skip
      refine r_iload k_40_90 rfl ?_
      refine r_iret k_40_91 ?_
      have e : c = C := by omega
      subst e
      exact zKe (q1 _ F1) (if_pos hfa)
    · skip
      refine r_aload k_40_52 rfl ?_
      refine r_getR (q := 1) k_40_53 ⟨rfl, rfl⟩ ?_
      refine r_getR (q := 4) k_40_56 ⟨rfl, rfl⟩ ?_
      refine r_aload k_40_59 rfl ?_
      refine r_getR (q := 22) k_40_60 ⟨rfl, rfl⟩ ?_
      refine r_iload k_40_63 rfl ?_
      refine r_call (as := [vR (4), vR (22), vI ((c : Int))]) (r := []) k_40_64 rfl rfl rfl ?_
      refine v_stands (r := 2) (l := (l.take n)) (c := (c : Int)) (by decide) hb W1 hz1 hct (by omega) (by omega) (by omega) (fun τ6 f6 z6 g6 => ?_) (fun τ7 f7 z7 g7 => ?_)
      · skip
        have F6 := zfr_2 F1 f6 (by decide) (by decide)
        have W6 := zrl_fr W1 f6 (by decide)
        refine r_if_eq k_40_67 (fun hz => absurd hz (by decide)) (fun _ => ?_)
        refine r_iload k_40_70 rfl ?_
        refine r_const k_40_71 ?_
        refine r_iload k_40_72 rfl ?_
        refine r_bin (v := zbin 5 1 ((c : Int))) k_40_73 rfl ?_
        refine r_bin (v := (zset (zok law least (l.take n)) (c + 1))) k_40_74 (by rw [zset_or (by omega), zset, if_pos (zok_t (by assumption))]) ?_
        refine r_istore (L' := [vR (0), vI ((n : Int)), vI ((zset (zok law least (l.take n)) (c + 1))), vI ((c : Int))]) k_40_75 rfl ?_
        refine r_aload k_40_76 rfl ?_
        refine r_getR (q := 22) k_40_77 ⟨rfl, rfl⟩ ?_
        refine r_const k_40_80 ?_
        refine r_call (as := [vR (22), vI (1)]) (r := []) k_40_81 rfl rfl rfl ?_
        refine s_cutl (r := 2) (l := ((l.take n))) (m := [(c : Int)]) (by decide) z6 (by rw [zlen1]; omega) rfl (fun τ8 f8 z8 => ?_)
        have F8 := zfr_2 F6 f8 (by decide) (by decide)
        have W8 := zrl_fr W6 f8 (by decide)
        refine r_iinc (v := (c : Int) + 1) (L' := [vR (0), vI ((n : Int)), vI ((zset (zok law least (l.take n)) (c + 1))), vI ((c : Int) + 1)]) k_40_84 rfl (zb_add ⟨by omega, by omega⟩) rfl ?_
        refine r_goto k_40_87 ?_
        exact ih _ (by omega) (c + 1) _ rfl (by omega) hfa W8 z8 F8
      · skip
        have F7 := zfr_2 F1 f7 (by decide) (by decide)
        have W7 := zrl_fr W1 f7 (by decide)
        refine r_if_eq k_40_67 (fun _ => ?_) (fun hz => absurd hz (by decide))
        refine r_aload k_40_76 rfl ?_
        refine r_getR (q := 22) k_40_77 ⟨rfl, rfl⟩ ?_
        refine r_const k_40_80 ?_
        refine r_call (as := [vR (22), vI (1)]) (r := []) k_40_81 rfl rfl rfl ?_
        refine s_cutl (r := 2) (l := ((l.take n))) (m := [(c : Int)]) (by decide) z7 (by rw [zlen1]; omega) rfl (fun τ9 f9 z9 => ?_)
        have F9 := zfr_2 F7 f9 (by decide) (by decide)
        have W9 := zrl_fr W7 f9 (by decide)
        refine r_iinc (v := (c : Int) + 1) (L' := [vR (0), vI ((n : Int)), vI ((zset (zok law least (l.take n)) c)), vI ((c : Int) + 1)]) k_40_84 rfl (zb_add ⟨by omega, by omega⟩) rfl ?_
        refine r_goto k_40_87 ?_
        have e : (zset (zok law least (l.take n)) (c + 1)) = (zset (zok law least (l.take n)) c) := by rw [zset, if_neg (zok_f g7), Int.add_zero]
        rw [← e]
        exact ih _ (by omega) (c + 1) _ rfl (by omega) hfa W9 z9 F9
  show zG (d + 4) 40 K 0 zfx (0, [vR (0), vI ((n : Int)), vU, vU], [], σ)
  refine r_aload k_40_0 rfl ?_
  refine r_getR (q := 22) k_40_1 ⟨rfl, rfl⟩ ?_
  refine r_aload k_40_4 rfl ?_
  refine r_getR (q := 1) k_40_5 ⟨rfl, rfl⟩ ?_
  refine r_getR (q := 2) k_40_8 ⟨rfl, rfl⟩ ?_
  refine r_iload k_40_11 rfl ?_
  refine r_call (as := [vR (22), vR (2), vI ((n : Int))]) (r := []) k_40_12 rfl rfl rfl ?_
  refine s_takel (r := 2) (t := 0) (l := l) (m := n) (by decide) (by decide) hz (by omega) rfl (by omega) (fun τ10 f10 z10 => ?_)
  replace f10 := zfr_w (S' := [2]) (A' := [2]) f10 (by decide) (by decide)
  have F10 := zfr_2 F0 f10 (by decide) (by decide)
  have Z10_0 := zis_fr hz f10 (by decide) (by decide)
  have W10 := zrl_fr hw f10 (by decide)
  refine r_aload k_40_15 rfl ?_
  refine r_getR (q := 1) k_40_16 ⟨rfl, rfl⟩ ?_
  refine r_getR (q := 4) k_40_19 ⟨rfl, rfl⟩ ?_
  refine r_aload k_40_22 rfl ?_
  refine r_getR (q := 22) k_40_23 ⟨rfl, rfl⟩ ?_
  refine r_call (as := [vR (4), vR (22)]) (r := []) k_40_26 rfl rfl rfl ?_
  refine v_faultOf (r := 2) (l := (l.take n)) (by decide) hb W10 z10 hct (by omega) ?_
  refine r_if_eq k_40_29 (fun h29 => ?_) (fun h29 => ?_)
  · skip
    refine r_const k_40_34 ?_
    refine r_istore (L' := [vR (0), vI ((n : Int)), vI (0), vU]) k_40_35 rfl ?_
    refine r_const k_40_36 ?_
    refine r_istore (L' := [vR (0), vI ((n : Int)), vI (0), vI (0)]) k_40_37 rfl ?_
    exact lp _ 0 _ rfl (by omega) (by omega) W10 z10 F10
  · skip
    refine r_const k_40_32 ?_
    refine r_iret k_40_33 ?_
    exact zKe (q1 _ F10) (if_neg (by omega))
