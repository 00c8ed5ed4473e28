/-! less: the two alike -/
def zlp (C : Nat) (law least : Int) (l : List Int) (N k : Nat) : Bool := decide ((zgo C law least (k + N) (l.take (l.length - k))).length = l.length + N)
def zfs (P : Nat → Bool) : Nat → Nat → Int
  | 0, _ => -4
  | m + 1, k => if P k = true then (k : Int) else zfs P m (k + 1)
theorem v_goe {d : Nat} {σ : zM} {K : zM → Option zV → Prop} {C : Nat} {law least : Int} {l : List Int} {k n : Nat} {a b : Int} (ha : a = k) (hbn : b = n) (hb : zbd C law least) (hw : zrl σ C law least) (hz : zis σ 0 l) (hc : zcol l) (hl : l.length ≤ 48) (hk : k ≤ l.length) (hn : n ≤ 24) (hkn : k + n ≤ 70) (q1 : ∀ τ, zfr [2, 3] [2, 3] σ τ → zis τ 3 (zgo C law least n (l.take k)) → K τ (some (vI (((zgo C law least n (l.take k)).length : Int) - (k : Int))))) : zC (d + 40) 44 [vR 0, vI a, vI b] σ K := by
  subst ha; subst hbn
  exact v_go hb hw hz hc hl hk hn hkn q1
theorem t_reachese {d : Nat} {σ : zM} {K : zM → Option zV → Prop} {C : Nat} {law least : Int} {Bn N : Nat} {x y : Int} (hx : x = Bn) (hy : y = N) (hL : 0 ≤ law ∧ law ≤ 3) (hM : 1 ≤ least ∧ least ≤ 9) (hC : C ≤ 4) (h10 : σ.2 12 0 = (C : Int)) (h12 : σ.2 12 1 = law) (h13 : σ.2 12 2 = least) (hN : N ≤ 24) (hBN : Bn + N ≤ 70) {l : List Int} (hl : l.length = Bn) (hc : zcol l) (hrs : zrs σ l) (q1 : ∀ τ, zfr [] [18, 19, 20] σ τ → zbs τ Bn (zgo C law least N l) → K τ (some (vI (((zgo C law least N l).length : Int) - (Bn : Int))))) : zC (d + 4) 100 [vR 27, vI x, vI y] σ K := by
  subst hx; subst hy
  exact t_reaches hL hM hC h10 h12 h13 hN hBN hl hc hrs q1
theorem x_less {d : Nat} {σ : zM} {K : zM → Option zV → Prop} {C : Nat} {law least draw : Int} {l : List Int} {p : Nat → Int} (hg : zgd C law least draw l p) (hx : zXn σ C law least draw l p) {n : Int} (q1 : ¬ (1 ≤ n ∧ n ≤ 12) → K σ (some (vI (-1)))) (q2 : ∀ N : Nat, n = N → 1 ≤ N → N ≤ 12 → ∀ τ, zfr [2, 3] [2, 3] σ τ → K τ (some (vI (zfs (zlp C law least l N) (min 12 l.length + 1) 0)))) : zC (d + 40 + 1) 46 [vR (0), vI (n)] σ K := by
  have hl := hg.2.2.1
  have hb := hg.1
  have hC := hg.1.1
  have hC4 := hg.1.2.1
  have F0 : zfr [2, 3] [2, 3] σ σ := zfr_rf
  refine zC_in rfl ?_
  have lp : ∀ (m : Nat) (N k : Nat) (τ : zM), k + m = min 12 l.length + 1 → n = N → 1 ≤ N → N ≤ 12 → zrl τ C law least → zis τ 0 l → zfr [2, 3] [2, 3] σ τ → (∀ υ, zfr [2, 3] [2, 3] σ υ → K υ (some (vI (zfs (zlp C law least l N) m k)))) → zG (d + 40) 46 K 0 zfx (31, [vR (0), vI (n), vI (((min 12 l.length : Nat) : Int)), vI ((k : Int))], [], τ) := by
    intro m
    induction m using Nat.strongRecOn with
    | _ m ih =>
    intro N k τ hm hN n1 n12 W1 hz1 F1 hq
    refine r_iload k_46_31 rfl ?_
    refine r_iload k_46_32 rfl ?_
    refine r_ic_gt k_46_33 (fun h33 => ?_) (fun h33 => ?_)
    · skip
      refine r_const k_46_69 ?_
      refine r_iret k_46_71 ?_
      have e : m = 0 := by omega
      subst e
      exact hq _ F1
    · skip
      refine r_aload k_46_36 rfl ?_
      refine r_aload k_46_37 rfl ?_
      refine r_getR (q := 1) k_46_38 ⟨rfl, rfl⟩ ?_
      refine r_getR (q := 2) k_46_41 ⟨rfl, rfl⟩ ?_
      refine r_getS (v := (l.length : Int)) k_46_44 ⟨rfl, rfl⟩ hz1.1 ?_
      refine r_iload k_46_47 rfl ?_
      refine r_bin (v := (l.length : Int) - ((k : Int))) k_46_48 (zb_sub ⟨by omega, by omega⟩) ?_
      refine r_iload k_46_49 rfl ?_
      refine r_iload k_46_50 rfl ?_
      refine r_bin (v := (k : Int) + n) k_46_51 (zb_add ⟨by omega, by omega⟩) ?_
      refine r_call (as := [vR (0), vI ((l.length : Int) - ((k : Int))), vI ((k : Int) + n)]) (r := []) k_46_52 rfl rfl rfl ?_
      refine v_goe (k := l.length - k) (n := k + N) (by omega) (by omega) hg.1 W1 hz1 (zgd_c hg) hl (by omega) (by omega) (by omega) (fun τ1 f1 _ => ?_)
      have F1 := zfr_2 F1 f1 (by decide) (by decide)
      have Z1_0 := zis_fr hz1 f1 (by decide) (by decide)
      have W1 := zrl_fr W1 f1 (by decide)
      refine r_iload k_46_55 rfl ?_
      refine r_iload k_46_56 rfl ?_
      refine r_bin (v := (k : Int) + n) k_46_57 (zb_add ⟨by omega, by omega⟩) ?_
      refine r_ic_ne k_46_58 (fun h58 => ?_) (fun h58 => ?_)
      · skip
        refine r_iinc (v := (k : Int) + 1) (L' := [vR (0), vI (n), vI (((min 12 l.length : Nat) : Int)), vI ((k : Int) + 1)]) k_46_63 rfl (zb_add ⟨by omega, by omega⟩) rfl ?_
        refine r_goto k_46_66 ?_
        obtain ⟨m2, rfl⟩ : ∃ m2, m = m2 + 1 := ⟨m - 1, by omega⟩
        exact ih m2 (by omega) N (k + 1) _ (by omega) hN n1 n12 W1 Z1_0 F1 (fun υ fu => zKe (hq υ fu) (by rw [zfs]; exact if_neg (by rw [show zlp C law least l N k = false from decide_eq_false (by omega)]; decide)))
      · skip
        refine r_iload k_46_61 rfl ?_
        refine r_iret k_46_62 ?_
        obtain ⟨m2, rfl⟩ : ∃ m2, m = m2 + 1 := ⟨m - 1, by omega⟩
        exact zKe (hq _ F1) (by rw [zfs]; exact if_pos (decide_eq_true (by omega)))
  show zG (d + 40) 46 K 0 zfx (0, [vR (0), vI (n), vU, vU], [], σ)
  refine r_iload k_46_0 rfl ?_
  refine r_const k_46_1 ?_
  refine r_ic_lt k_46_2 (fun h2 => ?_) (fun h2 => ?_)
  · skip
    refine r_const k_46_11 ?_
    refine r_iret k_46_12 ?_
    exact q1 (by omega)
  · skip
    refine r_iload k_46_5 rfl ?_
    refine r_const k_46_6 ?_
    refine r_ic_le k_46_8 (fun h8 => ?_) (fun h8 => ?_)
    · skip
      refine r_const k_46_13 ?_
      refine r_aload k_46_15 rfl ?_
      refine r_getR (q := 1) k_46_16 ⟨rfl, rfl⟩ ?_
      refine r_getR (q := 2) k_46_19 ⟨rfl, rfl⟩ ?_
      refine r_getS (v := (l.length : Int)) k_46_22 ⟨rfl, rfl⟩ hx.2.1.1 ?_
      refine r_min (v := ((min 12 l.length : Nat) : Int)) k_46_25 rfl (by split <;> omega) ?_
      refine r_istore (L' := [vR (0), vI (n), vI (((min 12 l.length : Nat) : Int)), vU]) k_46_28 rfl ?_
      refine r_const k_46_29 ?_
      refine r_istore (L' := [vR (0), vI (n), vI (((min 12 l.length : Nat) : Int)), vI (0)]) k_46_30 rfl ?_
      obtain ⟨N, hN⟩ : ∃ N : Nat, n = N := ⟨n.toNat, by omega⟩
      exact lp (min 12 l.length + 1) N 0 _ (by omega) hN (by omega) (by omega) hx.1 hx.2.1 F0 (q2 N hN (by omega) (by omega))
    · skip
      refine r_const k_46_11 ?_
      refine r_iret k_46_12 ?_
      exact q1 (by omega)
theorem y_less {d : Nat} {σ : zM} {K : zM → Option zV → Prop} {C : Nat} {law least draw : Int} {l : List Int} {p : Nat → Int} (hg : zgd C law least draw l p) (hy : zYn (σ.2 12) C law least draw l p) {n : Int} (q1 : ¬ (1 ≤ n ∧ n ≤ 12) → K σ (some (vI (-1)))) (q2 : ∀ N : Nat, n = N → 1 ≤ N → N ≤ 12 → ∀ τ, zfr [] [18, 19, 20] σ τ → K τ (some (vI (zfs (zlp C law least l N) (min 12 l.length + 1) 0)))) : zC (d + 4 + 1) 103 [vR (27), vI (n)] σ K := by
  have hl := hg.2.2.1
  have hb := hg.1
  have hC := hg.1.1
  have hC4 := hg.1.2.1
  refine zC_in rfl ?_
  have lp : ∀ (m : Nat) (N k : Nat) (τ : zM), k + m = min 12 l.length + 1 → n = N → 1 ≤ N → N ≤ 12 → zfr [] [18, 19, 20] σ τ → (∀ υ, zfr [] [18, 19, 20] σ υ → K υ (some (vI (zfs (zlp C law least l N) m k)))) → zG (d + 4) 103 K 0 zfx (16, [vR (27), vI (n), vI ((k : Int))], [], τ) := by
    intro m
    induction m using Nat.strongRecOn with
    | _ m ih =>
    intro N k τ hm hN n1 n12 F1 hq
    refine r_iload k_103_16 rfl ?_
    refine r_const k_103_17 ?_
    refine r_ic_gt k_103_19 (fun h19 => ?_) (fun h19 => ?_)
    · skip
      refine r_const k_103_66 ?_
      refine r_iret k_103_68 ?_
      have e : m = 0 := by omega
      subst e
      exact hq _ F1
    · skip
      refine r_iload k_103_22 rfl ?_
      refine r_aload k_103_23 rfl ?_
      refine r_getR (q := 28) k_103_24 ⟨rfl, rfl⟩ ?_
      refine r_const k_103_27 ?_
      refine r_iald (v := (l.length : Int)) k_103_28 ⟨rfl, rfl⟩ ⟨by decide, by decide⟩ (by rw [F1.2 12 (by decide)]; exact hy.2.2.2.2.1) ?_
      refine r_ic_gt k_103_29 (fun h29 => ?_) (fun h29 => ?_)
      · skip
        refine r_const k_103_66 ?_
        refine r_iret k_103_68 ?_
        have e : m = 0 := by omega
        subst e
        exact hq _ F1
      · skip
        refine r_aload k_103_32 rfl ?_
        refine r_call (as := [vR (27)]) (r := []) k_103_33 rfl rfl rfl ?_
        have hYa : zYn (τ.2 12) C law least draw l p := by rw [F1.2 12 (by decide)]; exact hy
        refine v_lay (N := l.length) hYa.2.2.2.2.1 hl (fun τ1 f1 r1 => ?_)
        have hYb : zYn (τ1.2 12) C law least draw l p := by rw [f1.2 12 (by decide)]; exact hYa
        have z1 : zrs τ1 l := zYrs hYa r1
        refine r_pop k_103_36 ?_
        refine r_aload k_103_37 rfl ?_
        refine r_aload k_103_38 rfl ?_
        refine r_getR (q := 28) k_103_39 ⟨rfl, rfl⟩ ?_
        refine r_const k_103_42 ?_
        refine r_iald (v := (l.length : Int)) k_103_43 ⟨rfl, rfl⟩ ⟨by decide, by decide⟩ hYb.2.2.2.2.1 ?_
        refine r_iload k_103_44 rfl ?_
        refine r_bin (v := (l.length : Int) - ((k : Int))) k_103_45 (zb_sub ⟨by omega, by omega⟩) ?_
        refine r_iload k_103_46 rfl ?_
        refine r_iload k_103_47 rfl ?_
        refine r_bin (v := (k : Int) + n) k_103_48 (zb_add ⟨by omega, by omega⟩) ?_
        refine r_call (as := [vR (27), vI ((l.length : Int) - ((k : Int))), vI ((k : Int) + n)]) (r := []) k_103_49 rfl rfl rfl ?_
        refine t_reachese (Bn := l.length - k) (N := k + N) (l := l.take (l.length - k)) (by omega) (by omega) ⟨hg.1.2.2.1, hg.1.2.2.2.1⟩ hg.1.2.2.2.2 (by omega) hYb.1 hYb.2.1 hYb.2.2.1 (by omega) (by omega) (by rw [List.length_take]; omega) (zcol_t (zgd_c hg) _) (zrs_t z1 _) (fun τ2 f2 _ => ?_)
        have F2 : zfr [] [18, 19, 20] σ τ2 := zfr_2 (zfr_2 F1 f1 (by decide) (by decide)) f2 (by decide) (by decide)
        refine r_iload k_103_52 rfl ?_
        refine r_iload k_103_53 rfl ?_
        refine r_bin (v := (k : Int) + n) k_103_54 (zb_add ⟨by omega, by omega⟩) ?_
        refine r_ic_ne k_103_55 (fun h55 => ?_) (fun h55 => ?_)
        · skip
          refine r_iinc (v := (k : Int) + 1) (L' := [vR (27), vI (n), vI ((k : Int) + 1)]) k_103_60 rfl (zb_add ⟨by omega, by omega⟩) rfl ?_
          refine r_goto k_103_63 ?_
          obtain ⟨m2, rfl⟩ : ∃ m2, m = m2 + 1 := ⟨m - 1, by omega⟩
          exact ih m2 (by omega) N (k + 1) _ (by omega) hN n1 n12 F2 (fun υ fu => zKe (hq υ fu) (by rw [zfs]; exact if_neg (by rw [show zlp C law least l N k = false from decide_eq_false (by omega)]; decide)))
        · skip
          refine r_iload k_103_58 rfl ?_
          refine r_iret k_103_59 ?_
          obtain ⟨m2, rfl⟩ : ∃ m2, m = m2 + 1 := ⟨m - 1, by omega⟩
          exact zKe (hq _ F2) (by rw [zfs]; exact if_pos (decide_eq_true (by omega)))
  show zG (d + 4) 103 K 0 zfx (0, [vR (27), vI (n), vU], [], σ)
  refine r_iload k_103_0 rfl ?_
  refine r_cnv (w := vL (n)) k_103_1 rfl ?_
  refine r_lconst k_103_2 ?_
  refine r_lconst k_103_3 ?_
  refine r_call (as := [vL (n), vL (1), vL (12)]) (r := []) k_103_6 rfl rfl rfl ?_
  refine t_in (fun g6 => ?_) (fun g6 => ?_)
  · skip
    refine r_if_ne k_103_9 (fun _ => ?_) (fun hz => absurd hz (by decide))
    refine r_const k_103_14 ?_
    refine r_istore (L' := [vR (27), vI (n), vI (0)]) k_103_15 rfl ?_
    obtain ⟨N, hN⟩ : ∃ N : Nat, n = N := ⟨n.toNat, by omega⟩
    exact lp (min 12 l.length + 1) N 0 _ (by omega) hN (by omega) (by omega) zfr_rf (q2 N hN (by omega) (by omega))
  · skip
    refine r_if_ne k_103_9 (fun hz => absurd hz (by decide)) (fun _ => ?_)
    refine r_const k_103_12 ?_
    refine r_iret k_103_13 ?_
    exact q1 (by omega)
theorem p_less {d : Nat} {σ : zM} (h : zInv σ) {n : Int} : zC (d + 41) 46 [vR 0, vI n] σ (fun σ1 r1 => zC (d + 5) 103 [vR 27, vI n] σ1 (zpq σ1 r1)) := by
  obtain ⟨C, law, least, draw, l, p, hg, hx, hy⟩ := h.1
  refine x_less hg hx (fun q => y_less hg hy (fun _ => ⟨⟨_, rfl, rfl⟩, h⟩) (fun N e1 e2 e3 => absurd ⟨by omega, by omega⟩ q)) (fun N e1 e2 e3 τ f => ?_)
  have hy2 : zYn (τ.2 12) C law least draw l p := by rw [f.2 12 (by decide)]; exact hy
  exact y_less hg hy2 (fun q => absurd ⟨by omega, by omega⟩ q) (fun N2 e4 _ _ υ f2 => ⟨⟨_, rfl, by rw [show N2 = N by omega]⟩, zInv_fr (zInv_fr h f (by decide) (by decide)) f2 (by decide) (by decide)⟩)
