/-! cheap: the two alike -/
def zprc (p : Nat → Int) (q : List Int) : Int := zcp p q q.length
theorem zcp_c {p : Nat → Int} {l m : List Int} : ∀ i, (∀ j, j < i → zlf l j = zlf m j) → zcp p l i = zcp p m i
  | 0, _ => rfl
  | i + 1, h => by rw [zcp, zcp, zcp_c i (fun j hj => h j (by omega)), h i (by omega)]
theorem zprc_a {p : Nat → Int} {l : List Int} {c : Nat} : zprc p (l ++ [(c : Int)]) = zprc p l + p c := by
  unfold zprc
  rw [zlen1, zcp, zcp_c (m := l) l.length (fun j hj => zlf_l hj), zlf_e, Int.toNat_natCast]
def zcs (p : Nat → Int) (a : Int × List Int) (q : List Int) : Int × List Int := if zprc p q < a.1 then (zprc p q, q) else a
theorem zch_fold {C : Nat} {law least : Int} {p : Nat → Int} : ∀ (m : Nat) (l : List Int) (a : Int × List Int), zch C law least p m l (zprc p l) a = (zenu C law least m l).foldl (zcs p) a
  | 0, l, a => rfl
  | m + 1, l, a => by
    have g : ∀ (n c : Nat) (a : Int × List Int), zchC law least (fun c a => zch C law least p m (l ++ [(c : Int)]) (zprc p l + p c) a) l n c a = (zmcC (zok law least l) (fun c => zenu C law least m (l ++ [(c : Int)])) n c).foldl (zcs p) a := by
      intro n
      induction n with
      | zero => intro c a; rfl
      | succ n ih =>
        intro c a
        rw [zchC, ih]
        by_cases hz : zend law least (l ++ [(c : Int)]) = 0
        · rw [zmcC_t (zok_t hz), if_pos hz, List.foldl_append, ← zprc_a, zch_fold m]
        · rw [zmcC_f (zok_f hz), if_neg hz]
    rw [zch, zenu]
    exact g C 0 a
theorem zprc_b {p : Nat → Int} {q : List Int} {N : Nat} (hp : ∀ k, k < 4 → 0 ≤ p k ∧ p k ≤ 99) (hc : zcol q) (hN : q.length = N) : 0 ≤ zprc p q ∧ zprc p q ≤ 99 * (N : Int) := by
  have := zcp_b hp hc q.length (Nat.le_refl _)
  rw [hN] at this
  unfold zprc
  rw [hN]
  exact this
theorem zcs_ok {p : Nat → Int} {B : Int} {N : Nat} : ∀ (L : List (List Int)) (a : Int × List Int), (∀ q ∈ L, (0 ≤ zprc p q ∧ zprc p q ≤ B) ∧ q.length = N) → (0 ≤ a.1 ∧ a.1 ≤ B) ∧ a.2.length = N → (0 ≤ (L.foldl (zcs p) a).1 ∧ (L.foldl (zcs p) a).1 ≤ B) ∧ (L.foldl (zcs p) a).2.length = N
  | [], _, _, h => h
  | q :: L, a, hL, h => by
    rw [List.foldl_cons]
    refine zcs_ok L _ (fun x hx => hL x (List.mem_cons_of_mem _ hx)) ?_
    unfold zcs
    split
    · exact hL q List.mem_cons_self
    · exact h
theorem zcs_ne {p : Nat → Int} {B : Int} {N : Nat} {q : List Int} {L : List (List Int)} {b : List Int} (hL : ∀ x ∈ q :: L, (0 ≤ zprc p x ∧ zprc p x ≤ B) ∧ x.length = N) : (0 ≤ ((q :: L).foldl (zcs p) (B + 1, b)).1 ∧ ((q :: L).foldl (zcs p) (B + 1, b)).1 ≤ B) ∧ ((q :: L).foldl (zcs p) (B + 1, b)).2.length = N := by
  rw [List.foldl_cons]
  refine zcs_ok L _ (fun x hx => hL x (List.mem_cons_of_mem _ hx)) ?_
  have h := hL q List.mem_cons_self
  unfold zcs
  rw [if_pos (by show zprc p q < B + 1; omega)]
  exact h
theorem zenu_ps {C : Nat} {law least : Int} {p : Nat → Int} {N : Nat} (hC : C ≤ 4) (hp : ∀ k, k < 4 → 0 ≤ p k ∧ p k ≤ 99) : ∀ x ∈ zenu C law least N [], (0 ≤ zprc p x ∧ zprc p x ≤ 99 * (N : Int)) ∧ x.length = N := fun x hx => by
  have h := zenu_mem N [] x hx zfau_nil (fun x hx => absurd hx List.not_mem_nil)
  have hl : x.length = N := by rw [h.1]; simp
  exact ⟨zprc_b hp (fun y hy => by have := h.2.2 y hy; omega) hl, hl⟩
theorem v_cheapeste {d : Nat} {σ : zM} {K : zM → Option zV → Prop} {C : Nat} {law least : Int} {p : Nat → Int} {N : Nat} {x b : Int} (hx : x = N) (hbe : b = 99 * (N : Int) + 1) (hb : zbd C law least) (hpb : ∀ k, k < 4 → 0 ≤ p k ∧ p k ≤ 99) (hN : N ≤ 8) (hw : zrl σ C law least) (hp : zpr σ p) (hz : zis σ 2 []) (hy : zis σ 3 []) (q1 : ∀ τ, zfr [2, 3] [2, 3] σ τ → zis τ 3 ((zenu C law least N []).foldl (zcs p) (99 * (N : Int) + 1, [])).2 → K τ (some (vI ((zenu C law least N []).foldl (zcs p) (99 * (N : Int) + 1, [])).1))) : zC (d + 14) 53 [vR 4, vR 22, vI x, vI 0, vI b, vR 24] σ K := by
  subst hx; subst hbe
  refine v_cheapest hb hpb N (d + 14) (by omega) hN hw hp hz hy zcol_nil (by simp; omega) (by decide) (by omega) (fun τ f _ z => ?_)
  have e := zch_fold (C := C) (law := law) (least := least) (p := p) N [] (99 * (N : Int) + 1, [])
  rw [show zprc p [] = 0 from rfl] at e
  rw [e] at z ⊢
  exact q1 τ f z
theorem x_cheap {d : Nat} {σ : zM} {K : zM → Option zV → Prop} {C : Nat} {law least draw : Int} {l : List Int} {p : Nat → Int} (hg : zgd C law least draw l p) (hx : zXn σ C law least draw l p) {n i : Int} (q1 : ¬ ((1 ≤ n ∧ n ≤ 8) ∧ -1 ≤ i ∧ i < n) → K σ (some (vI (-1)))) (q2 : ∀ N : Nat, n = N → 1 ≤ N → N ≤ 8 → -1 ≤ i → i < N → zenu C law least N [] = [] → ∀ τ, zfr [2, 3] [2, 3] σ τ → K τ (some (vI (-4)))) (q3 : ∀ N : Nat, n = N → 1 ≤ N → N ≤ 8 → -1 ≤ i → i < N → zenu C law least N [] ≠ [] → i < 0 → ∀ τ, zfr [2, 3] [2, 3] σ τ → K τ (some (vI ((zenu C law least N []).foldl (zcs p) (99 * (N : Int) + 1, [])).1))) (q4 : ∀ N : Nat, n = N → 1 ≤ N → N ≤ 8 → -1 ≤ i → i < N → zenu C law least N [] ≠ [] → 0 ≤ i → ∀ τ, zfr [2, 3] [2, 3] σ τ → K τ (some (vI (zlf ((zenu C law least N []).foldl (zcs p) (99 * (N : Int) + 1, [])).2 i.toNat)))) : zC (d + 39 + 1) 52 [vR (0), vI (n), vI (i)] σ K := by
  have hl := hg.2.2.1
  have hb := hg.1
  have hC := hg.1.1
  have hC4 := hg.1.2.1
  refine zC_in rfl ?_
  show zG (d + 39) 52 K 0 zfx (0, [vR (0), vI (n), vI (i), vU, vU], [], σ)
  refine r_iload k_52_0 rfl ?_
  refine r_const k_52_1 ?_
  refine r_ic_lt k_52_2 (fun h2 => ?_) (fun h2 => ?_)
  · skip
    refine r_const k_52_21 ?_
    refine r_iret k_52_22 ?_
    exact q1 (by omega)
  · skip
    refine r_iload k_52_5 rfl ?_
    refine r_const k_52_6 ?_
    refine r_ic_gt k_52_8 (fun h8 => ?_) (fun h8 => ?_)
    · skip
      refine r_const k_52_21 ?_
      refine r_iret k_52_22 ?_
      exact q1 (by omega)
    · skip
      refine r_iload k_52_11 rfl ?_
      refine r_const k_52_12 ?_
      refine r_ic_lt k_52_13 (fun h13 => ?_) (fun h13 => ?_)
      · skip
        refine r_const k_52_21 ?_
        refine r_iret k_52_22 ?_
        exact q1 (by omega)
      · skip
        refine r_iload k_52_16 rfl ?_
        refine r_iload k_52_17 rfl ?_
        refine r_ic_lt k_52_18 (fun h18 => ?_) (fun h18 => ?_)
        · skip
          refine r_aload k_52_23 rfl ?_
          refine r_getR (q := 22) k_52_24 ⟨rfl, rfl⟩ ?_
          refine r_const k_52_27 ?_
          refine r_putS k_52_28 ⟨rfl, rfl⟩ ?_
          refine r_aload k_52_31 rfl ?_
          refine r_getR (q := 24) k_52_32 ⟨rfl, rfl⟩ ?_
          refine r_const k_52_35 ?_
          refine r_putS k_52_36 ⟨rfl, rfl⟩ ?_
          refine r_const k_52_39 ?_
          refine r_iload k_52_41 rfl ?_
          refine r_bin (v := 99 * n) k_52_42 (zb_mul ⟨by omega, by omega⟩) ?_
          refine r_const k_52_43 ?_
          refine r_bin (v := 99 * n + 1) k_52_44 (zb_add ⟨by omega, by omega⟩) ?_
          refine r_istore (L' := [vR (0), vI (n), vI (i), vI (99 * n + 1), vU]) k_52_45 rfl ?_
          refine r_aload k_52_46 rfl ?_
          refine r_getR (q := 1) k_52_47 ⟨rfl, rfl⟩ ?_
          refine r_getR (q := 4) k_52_50 ⟨rfl, rfl⟩ ?_
          refine r_aload k_52_53 rfl ?_
          refine r_getR (q := 22) k_52_54 ⟨rfl, rfl⟩ ?_
          refine r_iload k_52_57 rfl ?_
          refine r_const k_52_58 ?_
          refine r_iload k_52_59 rfl ?_
          refine r_aload k_52_60 rfl ?_
          refine r_getR (q := 24) k_52_61 ⟨rfl, rfl⟩ ?_
          refine r_call (as := [vR (4), vR (22), vI (n), vI (0), vI (99 * n + 1), vR (24)]) (r := []) k_52_64 rfl rfl rfl ?_
          obtain ⟨N, hN⟩ : ∃ N : Nat, n = N := ⟨n.toNat, by omega⟩
          refine v_cheapeste hN (by omega) hg.1 hg.2.2.2.2 (d := d + 25) (by omega) (zrl_fr hx.1 (zfr_S (zfr_S (S := [2, 3]) (A := []) zfr_rf (by decide)) (by decide)) (by decide)) (zpr_fr hx.2.2.1 (zfr_S (zfr_S (S := [2, 3]) (A := []) zfr_rf (by decide)) (by decide)) (by decide)) ⟨by rw [zS_n (by decide)]; exact zS_1 _ _ _, fun k hk => absurd hk (Nat.not_lt_zero _)⟩ ⟨zS_1 _ _ _, fun k hk => absurd hk (Nat.not_lt_zero _)⟩ (fun τ1 f1 z1 => ?_)
          have F1 : zfr [2, 3] [2, 3] σ τ1 := zfr_tr (zfr_S (zfr_S (S := [2, 3]) (A := []) zfr_rf (by decide)) (by decide)) f1 (by decide) (by decide)
          have hcase : (zenu C law least N [] = [] ∧ ((zenu C law least N []).foldl (zcs p) (99 * (N : Int) + 1, [])).1 = 99 * (N : Int) + 1) ∨ (zenu C law least N [] ≠ [] ∧ (0 ≤ ((zenu C law least N []).foldl (zcs p) (99 * (N : Int) + 1, [])).1 ∧ ((zenu C law least N []).foldl (zcs p) (99 * (N : Int) + 1, [])).1 ≤ 99 * (N : Int)) ∧ ((zenu C law least N []).foldl (zcs p) (99 * (N : Int) + 1, [])).2.length = N) := by
            have hm := zenu_ps (C := C) (law := law) (least := least) (p := p) (N := N) (by omega) hg.2.2.2.2
            cases hS : zenu C law least N [] with
            | nil => exact Or.inl ⟨rfl, rfl⟩
            | cons q R => rw [hS] at hm; exact Or.inr ⟨by simp, zcs_ne hm⟩
          refine r_istore (L' := [vR (0), vI (n), vI (i), vI (99 * n + 1), vI (((zenu C law least N []).foldl (zcs p) (99 * (N : Int) + 1, [])).1)]) k_52_67 rfl ?_
          refine r_iload k_52_69 rfl ?_
          refine r_iload k_52_71 rfl ?_
          refine r_ic_ne k_52_72 (fun h72 => ?_) (fun h72 => ?_)
          · skip
            refine r_iload k_52_78 rfl ?_
            refine r_if_ge k_52_79 (fun h79 => ?_) (fun h79 => ?_)
            · skip
              refine r_aload k_52_87 rfl ?_
              refine r_getR (q := 24) k_52_88 ⟨rfl, rfl⟩ ?_
              refine r_iload k_52_91 rfl ?_
              refine r_call (as := [vR (24), vI (i)]) (r := []) k_52_92 rfl rfl rfl ?_
              refine v_at (r := 3) (l := ((zenu C law least N []).foldl (zcs p) (99 * (N : Int) + 1, [])).2) (k := i.toNat) (by decide) z1 (by rcases hcase with ⟨hS, hc1⟩ | ⟨hS, hc1, hc2⟩; exfalso; omega; omega) (by omega) (by rcases hcase with ⟨hS, hc1⟩ | ⟨hS, hc1, hc2⟩; exfalso; omega; omega) ?_
              refine r_iret k_52_95 ?_
              rcases hcase with ⟨hS, hc1⟩ | ⟨hS, hc1, hc2⟩
              · exfalso; omega
              · exact q4 N hN (by omega) (by omega) (by omega) (by omega) hS (by omega) _ F1
            · skip
              refine r_iload k_52_82 rfl ?_
              refine r_goto k_52_84 ?_
              refine r_iret k_52_95 ?_
              rcases hcase with ⟨hS, hc1⟩ | ⟨hS, hc1, hc2⟩
              · exfalso; omega
              · exact q3 N hN (by omega) (by omega) (by omega) (by omega) hS (by omega) _ F1
          · skip
            refine r_const k_52_75 ?_
            refine r_iret k_52_77 ?_
            rcases hcase with ⟨hS, hc1⟩ | ⟨hS, hc1, hc2⟩
            · exact q2 N hN (by omega) (by omega) (by omega) (by omega) hS _ F1
            · exfalso; omega
        · skip
          refine r_const k_52_21 ?_
          refine r_iret k_52_22 ?_
          exact q1 (by omega)
