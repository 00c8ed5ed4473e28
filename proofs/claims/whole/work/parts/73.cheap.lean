/-! cheap: the reference; the two alike -/
theorem y_cheap {d : Nat} {σ : zM} {K : zM → Option zV → Prop} {C : Nat} {law least draw : Int} {l : List Int} {p : Nat → Int} (hg : zgd C law least draw l p) (hy : zYn (σ.2 12) C law least draw l p) {n i : Int} (q1 : ¬ ((1 ≤ n ∧ n ≤ 8) ∧ -1 ≤ i ∧ i < n) → K σ (some (vI (-1)))) (q2 : ∀ N : Nat, n = N → 1 ≤ N → N ≤ 8 → -1 ≤ i → i < N → zenu C law least N [] = [] → ∀ τ, zfr [] [18, 19, 20] σ τ → K τ (some (vI (-4)))) (q3 : ∀ N : Nat, n = N → 1 ≤ N → N ≤ 8 → -1 ≤ i → i < N → zenu C law least N [] ≠ [] → i < 0 → ∀ τ, zfr [] [18, 19, 20] σ τ → K τ (some (vI ((zenu C law least N []).foldl (zcs p) (99 * (N : Int) + 1, [])).1))) (q4 : ∀ N : Nat, n = N → 1 ≤ N → N ≤ 8 → -1 ≤ i → i < N → zenu C law least N [] ≠ [] → 0 ≤ i → ∀ τ, zfr [] [18, 19, 20] σ τ → K τ (some (vI (zlf ((zenu C law least N []).foldl (zcs p) (99 * (N : Int) + 1, [])).2 i.toNat)))) : zC (d + 5 + 1) 109 [vR (27), vI (n), vI (i)] σ K := by
  have hl := hg.2.2.1
  have hb := hg.1
  have hC := hg.1.1
  have hC4 := hg.1.2.1
  refine zC_in rfl ?_
  have lpx : ∀ (m : Nat) (v : Int) (τ : zM), -1 ≤ i → i < 8 → (v = -4 → K τ (some (vI (-4)))) → (v ≠ -4 → i < 0 → K τ (some (vI v))) → (v ≠ -4 → 0 ≤ i → K τ (some (vI (τ.2 20 i.toNat)))) → zG (d + 5) 109 K 0 zfx (40, [vR (27), vI (n), vI (i), vI (v), vI (0), vU, vU], [], τ) := by
    intro m
    induction m using Nat.strongRecOn with
    | _ m ih =>
    intro v τ i0 i8 a1 a2 a3
    refine r_iload k_109_40 rfl ?_
    refine r_if_eq k_109_42 (fun _ => ?_) (fun hz => absurd hz (by decide))
    refine r_iload k_109_137 rfl ?_
    refine r_const k_109_138 ?_
    refine r_ic_eq k_109_140 (fun h140 => ?_) (fun h140 => ?_)
    · skip
      refine r_iload k_109_147 rfl ?_
      refine r_goto k_109_148 ?_
      refine r_iret k_109_157 ?_
      by_cases hv : v = -4
      · rw [hv]; exact a1 hv
      · exact a2 hv (by omega)
    · skip
      refine r_iload k_109_143 rfl ?_
      refine r_if_ge k_109_144 (fun h144 => ?_) (fun h144 => ?_)
      · skip
        refine r_aload k_109_151 rfl ?_
        refine r_getR (q := 36) k_109_152 ⟨rfl, rfl⟩ ?_
        refine r_iload k_109_155 rfl ?_
        refine r_iald (v := τ.2 20 (i : Int).toNat) k_109_156 ⟨rfl, rfl⟩ ⟨by omega, by omega⟩ rfl ?_
        refine r_iret k_109_157 ?_
        exact a3 (by omega) (by omega)
      · skip
        refine r_iload k_109_147 rfl ?_
        refine r_goto k_109_148 ?_
        refine r_iret k_109_157 ?_
        by_cases hv : v = -4
        · rw [hv]; exact a1 hv
        · exact a2 hv (by omega)
  have in1 : ∀ (m : Nat) (N k : Nat) (q : List Int) (v : Int) (τ : zM), N - k = m → k ≤ N → n = N → N ≤ 8 → q.length = N → zcol q → zYn (τ.2 12) C law least draw l p → zrs τ q → zG (d + 5) 109 K 0 zfx (82, [vR 27, vI n, vI i, vI v, vI 1, vI (zprc p q), vU], [], τ) → zG (d + 5) 109 K 0 zfx (51, [vR (27), vI (n), vI (i), vI (v), vI (1), vI ((zcp p q k)), vI ((k : Int))], [], τ) := by
    intro m
    induction m using Nat.strongRecOn with
    | _ m ih =>
    intro N k q v τ hm g1 hN n8 hql hqc hyt hrs hq
    have hb := zcp_b (p := p) hg.2.2.2.2 hqc k (by omega)
    refine r_iload k_109_51 rfl ?_
    refine r_iload k_109_53 rfl ?_
    refine r_ic_ge k_109_54 (fun h54 => ?_) (fun h54 => ?_)
    · skip
      have ek : k = N := by omega
      subst ek
      refine r_cut (L' := [vR 27, vI n, vI i, vI v, vI 1, vI (zcp p q k), vU]) 6 rfl ?_
      have e : zcp p q k = zprc p q := by unfold zprc; rw [hql]
      rw [e]
      exact hq
    · skip
      refine r_iload k_109_57 rfl ?_
      refine r_aload k_109_59 rfl ?_
      refine r_getR (q := 28) k_109_60 ⟨rfl, rfl⟩ ?_
      refine r_const k_109_63 ?_
      refine r_aload k_109_64 rfl ?_
      refine r_getR (q := 34) k_109_65 ⟨rfl, rfl⟩ ?_
      refine r_iload k_109_68 rfl ?_
      refine r_iald (v := (zlf q k)) k_109_70 ⟨rfl, rfl⟩ ⟨by omega, by omega⟩ (by rw [show ((k : Nat) : Int).toNat = k by omega]; exact hrs k (by omega)) ?_
      refine r_bin (v := 5 + (zlf q k)) k_109_71 (zb_add ⟨by have := zcol_k hqc (k := k) (by omega); omega, by have := zcol_k hqc (k := k) (by omega); omega⟩) ?_
      refine r_iald (v := (p (zlf q k).toNat)) k_109_72 ⟨rfl, rfl⟩ ⟨by have := zcol_k hqc (k := k) (by omega); omega, by have := zcol_k hqc (k := k) (by omega); omega⟩ (by have := zcol_k hqc (k := k) (by omega); rw [show (5 + (zlf q k) : Int).toNat = 5 + (zlf q k).toNat by omega]; exact hyt.2.2.2.2.2.1 _ (by omega)) ?_
      refine r_bin (v := (zcp p q k) + (p (zlf q k).toNat)) k_109_73 (zb_add ⟨by have h1 := zcol_k hqc (k := k) (by omega); have := hg.2.2.2.2 (zlf q k).toNat (by omega); omega, by have h1 := zcol_k hqc (k := k) (by omega); have := hg.2.2.2.2 (zlf q k).toNat (by omega); omega⟩) ?_
      refine r_istore (L' := [vR (27), vI (n), vI (i), vI (v), vI (1), vI ((zcp p q k) + (p (zlf q k).toNat)), vI ((k : Int))]) k_109_74 rfl ?_
      refine r_iinc (v := (k : Int) + 1) (L' := [vR (27), vI (n), vI (i), vI (v), vI (1), vI ((zcp p q k) + (p (zlf q k).toNat)), vI ((k : Int) + 1)]) k_109_76 rfl (zb_add ⟨by omega, by omega⟩) rfl ?_
      refine r_goto k_109_79 ?_
      have e : zcp p q (k + 1) = (zcp p q k) + (p (zlf q k).toNat) := by rw [zcp]
      rw [← e]
      exact ih _ (by omega) N (k + 1) q v τ rfl (by omega) hN n8 hql hqc hyt hrs hq
  have in2 : ∀ (m : Nat) (N k : Nat) (q : List Int) (v s : Int) (τ : zM), N - k = m → k ≤ N → n = N → N ≤ 8 → q.length = N → zfr [] [18, 19, 20] σ τ → zrs τ q → (∀ j, j < k → τ.2 20 j = zlf q j) → (∀ υ, zfr [] [18, 19, 20] σ υ → zrs υ q → (∀ j, j < N → υ.2 20 j = zlf q j) → zG (d + 5) 109 K 0 zfx (126, [vR 27, vI n, vI i, vI v, vI 1, vI s, vU], [], υ)) → zG (d + 5) 109 K 0 zfx (100, [vR (27), vI (n), vI (i), vI (v), vI (1), vI (s), vI ((k : Int))], [], τ) := by
    intro m
    induction m using Nat.strongRecOn with
    | _ m ih =>
    intro N k q v s τ hm g1 hN n8 hql hf hrs ha hq
    refine r_iload k_109_100 rfl ?_
    refine r_iload k_109_102 rfl ?_
    refine r_ic_ge k_109_103 (fun h103 => ?_) (fun h103 => ?_)
    · skip
      refine r_cut (L' := [vR 27, vI n, vI i, vI v, vI 1, vI s, vU]) 6 rfl ?_
      exact hq _ hf hrs (fun j hj => ha j (by omega))
    · skip
      refine r_aload k_109_106 rfl ?_
      refine r_getR (q := 36) k_109_107 ⟨rfl, rfl⟩ ?_
      refine r_iload k_109_110 rfl ?_
      refine r_aload k_109_112 rfl ?_
      refine r_getR (q := 34) k_109_113 ⟨rfl, rfl⟩ ?_
      refine r_iload k_109_116 rfl ?_
      refine r_iald (v := (zlf q k)) k_109_118 ⟨rfl, rfl⟩ ⟨by omega, by omega⟩ (by rw [show ((k : Nat) : Int).toNat = k by omega]; exact hrs k (by omega)) ?_
      refine r_iast k_109_119 ⟨rfl, rfl⟩ ⟨by omega, by omega⟩ ?_
      refine r_iinc (v := (k : Int) + 1) (L' := [vR (27), vI (n), vI (i), vI (v), vI (1), vI (s), vI ((k : Int) + 1)]) k_109_120 rfl (zb_add ⟨by omega, by omega⟩) rfl ?_
      refine r_goto k_109_123 ?_
      refine ih _ (by omega) N (k + 1) q v s _ rfl (by omega) hN n8 hql (zfr_A hf (by decide)) (fun j hj => hrs j hj) (fun j hj => ?_) hq
      rw [zA_2, show ((k : Nat) : Int).toNat = k by omega]
      by_cases e : j = k
      · subst e; exact zup_1 _ _ _
      · rw [zup_n e]; exact ha j (by omega)
  have lp : ∀ (m : Nat) (N : Nat) (q : List Int) (R : List (List Int)) (v : Int) (a : Int × List Int) (τ : zM), R.length = m → n = N → 1 ≤ N → N ≤ 8 → -1 ≤ i → i < N → znx C law least N q R → zfr [] [18, 19, 20] σ τ → zrs τ q → ((v = -4 ∧ a.1 = 99 * (N : Int) + 1) ∨ (v = a.1 ∧ (0 ≤ a.1 ∧ a.1 ≤ 99 * (N : Int)) ∧ a.2.length = N ∧ ∀ j, j < N → τ.2 20 j = zlf a.2 j)) → (∀ υ, zfr [] [18, 19, 20] σ υ → i < 0 → K υ (some (vI ((q :: R).foldl (zcs p) a).1))) → (∀ υ, zfr [] [18, 19, 20] σ υ → 0 ≤ i → K υ (some (vI (zlf ((q :: R).foldl (zcs p) a).2 i.toNat)))) → zG (d + 5) 109 K 0 zfx (40, [vR (27), vI (n), vI (i), vI (v), vI (1), vU, vU], [], τ) := by
    intro m
    induction m using Nat.strongRecOn with
    | _ m ih =>
    intro N q R v a τ hm hN n1 n9 i0 iN hnx hf hrs hst hq3 hq4
    refine r_iload k_109_40 rfl ?_
    refine r_if_eq k_109_42 (fun hz => absurd hz (by decide)) (fun _ => ?_)
    refine r_const k_109_45 ?_
    refine r_istore (L' := [vR (27), vI (n), vI (i), vI (v), vI (1), vI (0), vU]) k_109_46 rfl ?_
    refine r_const k_109_48 ?_
    refine r_istore (L' := [vR (27), vI (n), vI (i), vI (v), vI (1), vI (0), vI (0)]) k_109_49 rfl ?_
    have hyt : zYn (τ.2 12) C law least draw l p := by rw [hf.2 12 (by decide)]; exact hy
    have hqc := znx_col hnx (by omega)
    have hpb := zprc_b hg.2.2.2.2 hqc hnx.2.1
    refine in1 _ N 0 q v τ rfl (by omega) hN n9 hnx.2.1 hqc hyt hrs ?_
    refine r_iload k_109_82 rfl ?_
    refine r_const k_109_83 ?_
    refine r_ic_eq k_109_85 (fun h85 => ?_) (fun h85 => ?_)
    · skip
      refine r_iload k_109_94 rfl ?_
      refine r_istore (L' := [vR (27), vI (n), vI (i), vI ((zprc p q)), vI (1), vI ((zprc p q)), vU]) k_109_96 rfl ?_
      refine r_const k_109_97 ?_
      refine r_istore (L' := [vR (27), vI (n), vI (i), vI ((zprc p q)), vI (1), vI ((zprc p q)), vI (0)]) k_109_98 rfl ?_
      refine in2 _ N 0 q (zprc p q) (zprc p q) τ rfl (by omega) hN n9 hnx.2.1 hf hrs (fun j hj => absurd hj (Nat.not_lt_zero _)) (fun υ fu zu hu => ?_)
      refine r_aload k_109_126 rfl ?_
      refine r_iload k_109_127 rfl ?_
      refine r_const k_109_128 ?_
      refine r_call (as := [vR (27), vI (n), vI (0)]) (r := []) k_109_129 rfl rfl rfl ?_
      have hYq : zYn ((υ).2 12) C law least draw l p := by rw [fu.2 12 (by decide)]; exact hy
      refine t_nexte hN ⟨hg.1.2.2.1, hg.1.2.2.2.1⟩ hg.1.2.2.2.2 (by omega) hYq.1 hYq.2.1 hYq.2.2.1 (by omega) (p := q) hnx.2.1 hnx.2.2.2 zu (fun q2 R2 hS τ2 f2 z2 => ?_) (fun hS τ2 f2 => ?_)
      · skip
        have F2 : zfr [] [18, 19, 20] σ τ2 := zfr_2 fu f2 (by decide) (by decide)
        refine r_istore (L' := [vR (27), vI (n), vI (i), vI ((zprc p q)), vI (1), vI ((zprc p q)), vU]) k_109_132 rfl ?_
        refine r_goto k_109_134 ?_
        refine r_cut (L' := [vR (27), vI (n), vI (i), vI ((zprc p q)), vI (1), vU, vU]) 5 rfl ?_
        have eA : zcs p a q = (zprc p q, q) := if_pos (by rcases hst with g | g <;> omega)
        have hst2 : ((zprc p q) = -4 ∧ (zprc p q, q).1 = 99 * (N : Int) + 1) ∨ ((zprc p q) = (zprc p q, q).1 ∧ (0 ≤ (zprc p q, q).1 ∧ (zprc p q, q).1 ≤ 99 * (N : Int)) ∧ (zprc p q, q).2.length = N ∧ ∀ j, j < N → τ2.2 20 j = zlf (zprc p q, q).2 j) := Or.inr ⟨rfl, hpb, hnx.2.1, fun j hj => by rw [f2.2 20 (by decide)]; exact hu j hj⟩
        rw [List.foldl_cons, eA] at hq3 hq4
        have e2 : R = q2 :: R2 := hnx.1.trans hS
        have eR : R.length = R2.length + 1 := by rw [e2]; rfl
        rw [e2] at hq3 hq4
        exact ih R2.length (by omega) N q2 R2 (zprc p q) (zprc p q, q) _ rfl hN n1 n9 i0 iN (znx_next hnx e2) F2 z2 hst2 hq3 hq4
      · skip
        have F2 : zfr [] [18, 19, 20] σ τ2 := zfr_2 fu f2 (by decide) (by decide)
        refine r_istore (L' := [vR (27), vI (n), vI (i), vI ((zprc p q)), vI (0), vI ((zprc p q)), vU]) k_109_132 rfl ?_
        refine r_goto k_109_134 ?_
        refine r_cut (L' := [vR (27), vI (n), vI (i), vI ((zprc p q)), vI (0), vU, vU]) 5 rfl ?_
        have eA : zcs p a q = (zprc p q, q) := if_pos (by rcases hst with g | g <;> omega)
        have hst2 : ((zprc p q) = -4 ∧ (zprc p q, q).1 = 99 * (N : Int) + 1) ∨ ((zprc p q) = (zprc p q, q).1 ∧ (0 ≤ (zprc p q, q).1 ∧ (zprc p q, q).1 ≤ 99 * (N : Int)) ∧ (zprc p q, q).2.length = N ∧ ∀ j, j < N → τ2.2 20 j = zlf (zprc p q, q).2 j) := Or.inr ⟨rfl, hpb, hnx.2.1, fun j hj => by rw [f2.2 20 (by decide)]; exact hu j hj⟩
        rw [List.foldl_cons, eA] at hq3 hq4
        have e2 : R = [] := hnx.1.trans hS
        rw [e2] at hq3 hq4
        exact lpx 0 _ _ i0 (by omega) (fun q => by omega) (fun _ q => hq3 _ F2 q) (fun _ q => zKe (hq4 _ F2 q) (by rw [f2.2 20 (by decide)]; exact (hu _ (by omega)).symm))
    · skip
      refine r_iload k_109_88 rfl ?_
      refine r_iload k_109_90 rfl ?_
      refine r_ic_ge k_109_91 (fun h91 => ?_) (fun h91 => ?_)
      · skip
        refine r_aload k_109_126 rfl ?_
        refine r_iload k_109_127 rfl ?_
        refine r_const k_109_128 ?_
        refine r_call (as := [vR (27), vI (n), vI (0)]) (r := []) k_109_129 rfl rfl rfl ?_
        have hYq : zYn ((τ).2 12) C law least draw l p := by rw [hf.2 12 (by decide)]; exact hy
        refine t_nexte hN ⟨hg.1.2.2.1, hg.1.2.2.2.1⟩ hg.1.2.2.2.2 (by omega) hYq.1 hYq.2.1 hYq.2.2.1 (by omega) (p := q) hnx.2.1 hnx.2.2.2 hrs (fun q2 R2 hS τ2 f2 z2 => ?_) (fun hS τ2 f2 => ?_)
        · skip
          have F2 : zfr [] [18, 19, 20] σ τ2 := zfr_2 hf f2 (by decide) (by decide)
          refine r_istore (L' := [vR (27), vI (n), vI (i), vI (v), vI (1), vI ((zprc p q)), vU]) k_109_132 rfl ?_
          refine r_goto k_109_134 ?_
          refine r_cut (L' := [vR (27), vI (n), vI (i), vI (v), vI (1), vU, vU]) 5 rfl ?_
          have hst1 : v = a.1 ∧ (0 ≤ a.1 ∧ a.1 ≤ 99 * (N : Int)) ∧ a.2.length = N ∧ ∀ j, j < N → τ.2 20 j = zlf a.2 j := by
            rcases hst with g | g
            · exfalso; omega
            · exact g
          have eA : zcs p a q = a := if_neg (by have := hst1.1; omega)
          have hst2 : (v = -4 ∧ a.1 = 99 * (N : Int) + 1) ∨ (v = a.1 ∧ (0 ≤ a.1 ∧ a.1 ≤ 99 * (N : Int)) ∧ a.2.length = N ∧ ∀ j, j < N → τ2.2 20 j = zlf a.2 j) := Or.inr ⟨hst1.1, hst1.2.1, hst1.2.2.1, fun j hj => by rw [f2.2 20 (by decide)]; exact hst1.2.2.2 j hj⟩
          rw [List.foldl_cons, eA] at hq3 hq4
          have e2 : R = q2 :: R2 := hnx.1.trans hS
          have eR : R.length = R2.length + 1 := by rw [e2]; rfl
          rw [e2] at hq3 hq4
          exact ih R2.length (by omega) N q2 R2 v a _ rfl hN n1 n9 i0 iN (znx_next hnx e2) F2 z2 hst2 hq3 hq4
        · skip
          have F2 : zfr [] [18, 19, 20] σ τ2 := zfr_2 hf f2 (by decide) (by decide)
          refine r_istore (L' := [vR (27), vI (n), vI (i), vI (v), vI (0), vI ((zprc p q)), vU]) k_109_132 rfl ?_
          refine r_goto k_109_134 ?_
          refine r_cut (L' := [vR (27), vI (n), vI (i), vI (v), vI (0), vU, vU]) 5 rfl ?_
          have hst1 : v = a.1 ∧ (0 ≤ a.1 ∧ a.1 ≤ 99 * (N : Int)) ∧ a.2.length = N ∧ ∀ j, j < N → τ.2 20 j = zlf a.2 j := by
            rcases hst with g | g
            · exfalso; omega
            · exact g
          have eA : zcs p a q = a := if_neg (by have := hst1.1; omega)
          have hst2 : (v = -4 ∧ a.1 = 99 * (N : Int) + 1) ∨ (v = a.1 ∧ (0 ≤ a.1 ∧ a.1 ≤ 99 * (N : Int)) ∧ a.2.length = N ∧ ∀ j, j < N → τ2.2 20 j = zlf a.2 j) := Or.inr ⟨hst1.1, hst1.2.1, hst1.2.2.1, fun j hj => by rw [f2.2 20 (by decide)]; exact hst1.2.2.2 j hj⟩
          rw [List.foldl_cons, eA] at hq3 hq4
          have e2 : R = [] := hnx.1.trans hS
          rw [e2] at hq3 hq4
          exact lpx 0 _ _ i0 (by omega) (fun q => by have := hst1.1; omega) (fun _ q => zKe (hq3 _ F2 q) hst1.1.symm) (fun _ q => zKe (hq4 _ F2 q) (by rw [f2.2 20 (by decide)]; exact (hst1.2.2.2 _ (by omega)).symm))
      · skip
        refine r_iload k_109_94 rfl ?_
        refine r_istore (L' := [vR (27), vI (n), vI (i), vI ((zprc p q)), vI (1), vI ((zprc p q)), vU]) k_109_96 rfl ?_
        refine r_const k_109_97 ?_
        refine r_istore (L' := [vR (27), vI (n), vI (i), vI ((zprc p q)), vI (1), vI ((zprc p q)), vI (0)]) k_109_98 rfl ?_
        refine in2 _ N 0 q (zprc p q) (zprc p q) τ rfl (by omega) hN n9 hnx.2.1 hf hrs (fun j hj => absurd hj (Nat.not_lt_zero _)) (fun υ fu zu hu => ?_)
        refine r_aload k_109_126 rfl ?_
        refine r_iload k_109_127 rfl ?_
        refine r_const k_109_128 ?_
        refine r_call (as := [vR (27), vI (n), vI (0)]) (r := []) k_109_129 rfl rfl rfl ?_
        have hYq : zYn ((υ).2 12) C law least draw l p := by rw [fu.2 12 (by decide)]; exact hy
        refine t_nexte hN ⟨hg.1.2.2.1, hg.1.2.2.2.1⟩ hg.1.2.2.2.2 (by omega) hYq.1 hYq.2.1 hYq.2.2.1 (by omega) (p := q) hnx.2.1 hnx.2.2.2 zu (fun q2 R2 hS τ2 f2 z2 => ?_) (fun hS τ2 f2 => ?_)
        · skip
          have F2 : zfr [] [18, 19, 20] σ τ2 := zfr_2 fu f2 (by decide) (by decide)
          refine r_istore (L' := [vR (27), vI (n), vI (i), vI ((zprc p q)), vI (1), vI ((zprc p q)), vU]) k_109_132 rfl ?_
          refine r_goto k_109_134 ?_
          refine r_cut (L' := [vR (27), vI (n), vI (i), vI ((zprc p q)), vI (1), vU, vU]) 5 rfl ?_
          have eA : zcs p a q = (zprc p q, q) := if_pos (by rcases hst with g | g <;> omega)
          have hst2 : ((zprc p q) = -4 ∧ (zprc p q, q).1 = 99 * (N : Int) + 1) ∨ ((zprc p q) = (zprc p q, q).1 ∧ (0 ≤ (zprc p q, q).1 ∧ (zprc p q, q).1 ≤ 99 * (N : Int)) ∧ (zprc p q, q).2.length = N ∧ ∀ j, j < N → τ2.2 20 j = zlf (zprc p q, q).2 j) := Or.inr ⟨rfl, hpb, hnx.2.1, fun j hj => by rw [f2.2 20 (by decide)]; exact hu j hj⟩
          rw [List.foldl_cons, eA] at hq3 hq4
          have e2 : R = q2 :: R2 := hnx.1.trans hS
          have eR : R.length = R2.length + 1 := by rw [e2]; rfl
          rw [e2] at hq3 hq4
          exact ih R2.length (by omega) N q2 R2 (zprc p q) (zprc p q, q) _ rfl hN n1 n9 i0 iN (znx_next hnx e2) F2 z2 hst2 hq3 hq4
        · skip
          have F2 : zfr [] [18, 19, 20] σ τ2 := zfr_2 fu f2 (by decide) (by decide)
          refine r_istore (L' := [vR (27), vI (n), vI (i), vI ((zprc p q)), vI (0), vI ((zprc p q)), vU]) k_109_132 rfl ?_
          refine r_goto k_109_134 ?_
          refine r_cut (L' := [vR (27), vI (n), vI (i), vI ((zprc p q)), vI (0), vU, vU]) 5 rfl ?_
          have eA : zcs p a q = (zprc p q, q) := if_pos (by rcases hst with g | g <;> omega)
          have hst2 : ((zprc p q) = -4 ∧ (zprc p q, q).1 = 99 * (N : Int) + 1) ∨ ((zprc p q) = (zprc p q, q).1 ∧ (0 ≤ (zprc p q, q).1 ∧ (zprc p q, q).1 ≤ 99 * (N : Int)) ∧ (zprc p q, q).2.length = N ∧ ∀ j, j < N → τ2.2 20 j = zlf (zprc p q, q).2 j) := Or.inr ⟨rfl, hpb, hnx.2.1, fun j hj => by rw [f2.2 20 (by decide)]; exact hu j hj⟩
          rw [List.foldl_cons, eA] at hq3 hq4
          have e2 : R = [] := hnx.1.trans hS
          rw [e2] at hq3 hq4
          exact lpx 0 _ _ i0 (by omega) (fun q => by omega) (fun _ q => hq3 _ F2 q) (fun _ q => zKe (hq4 _ F2 q) (by rw [f2.2 20 (by decide)]; exact (hu _ (by omega)).symm))
  show zG (d + 5) 109 K 0 zfx (0, [vR (27), vI (n), vI (i), vU, vU, vU, vU], [], σ)
  refine r_iload k_109_0 rfl ?_
  refine r_cnv (w := vL (n)) k_109_1 rfl ?_
  refine r_lconst k_109_2 ?_
  refine r_lconst k_109_3 ?_
  refine r_call (as := [vL (n), vL (1), vL (8)]) (r := []) k_109_6 rfl rfl rfl ?_
  refine t_in (fun g6 => ?_) (fun g6 => ?_)
  · skip
    refine r_if_eq k_109_9 (fun hz => absurd hz (by decide)) (fun _ => ?_)
    refine r_iload k_109_12 rfl ?_
    refine r_cnv (w := vL (i)) k_109_13 rfl ?_
    refine r_lconst k_109_14 ?_
    refine r_iload k_109_17 rfl ?_
    refine r_const k_109_18 ?_
    refine r_bin (v := n - 1) k_109_19 (zb_sub ⟨by omega, by omega⟩) ?_
    refine r_cnv (w := vL (n - 1)) k_109_20 rfl ?_
    refine r_call (as := [vL (i), vL (-1), vL (n - 1)]) (r := []) k_109_21 rfl rfl rfl ?_
    refine t_in (fun g21 => ?_) (fun g21 => ?_)
    · skip
      refine r_if_ne k_109_24 (fun _ => ?_) (fun hz => absurd hz (by decide))
      refine r_const k_109_29 ?_
      refine r_istore (L' := [vR (27), vI (n), vI (i), vI (-4), vU, vU, vU]) k_109_31 rfl ?_
      refine r_aload k_109_32 rfl ?_
      refine r_iload k_109_33 rfl ?_
      refine r_const k_109_34 ?_
      refine r_call (as := [vR (27), vI (n), vI (1)]) (r := []) k_109_35 rfl rfl rfl ?_
      obtain ⟨N, hN⟩ : ∃ N : Nat, n = N := ⟨n.toNat, by omega⟩
      refine t_firste hN ⟨hg.1.2.2.1, hg.1.2.2.2.1⟩ hg.1.2.2.2.2 (by omega) hy.1 hy.2.1 hy.2.2.1 (by omega) (by omega) (fun q R hS τ1 f1 z1 => ?_) (fun hS τ1 f1 => ?_)
      · skip
        have F1 : zfr [] [18, 19, 20] σ τ1 := zfr_w f1 (by decide) (by decide)
        refine r_istore (L' := [vR (27), vI (n), vI (i), vI (-4), vI (1), vU, vU]) k_109_38 rfl ?_
        have hne : zenu C law least N [] ≠ [] := by rw [hS]; simp
        have h3 := fun υ fu e => q3 N hN (by omega) (by omega) (by omega) (by omega) hne e υ fu
        have h4 := fun υ fu e => q4 N hN (by omega) (by omega) (by omega) (by omega) hne e υ fu
        rw [hS] at h3 h4
        exact lp _ N q R (-4) (99 * (N : Int) + 1, []) _ rfl hN (by omega) (by omega) (by omega) (by omega) (zenu_nx (by omega) hS) F1 z1 (Or.inl ⟨rfl, rfl⟩) h3 h4
      · skip
        have F1 : zfr [] [18, 19, 20] σ τ1 := zfr_w f1 (by decide) (by decide)
        refine r_istore (L' := [vR (27), vI (n), vI (i), vI (-4), vI (0), vU, vU]) k_109_38 rfl ?_
        exact lpx 0 _ _ (by omega) (by omega) (fun _ => q2 N hN (by omega) (by omega) (by omega) (by omega) hS _ F1) (fun q => absurd rfl q) (fun q => absurd rfl q)
    · skip
      refine r_if_ne k_109_24 (fun hz => absurd hz (by decide)) (fun _ => ?_)
      refine r_const k_109_27 ?_
      refine r_iret k_109_28 ?_
      exact q1 (by omega)
  · skip
    refine r_if_eq k_109_9 (fun _ => ?_) (fun hz => absurd hz (by decide))
    refine r_const k_109_27 ?_
    refine r_iret k_109_28 ?_
    exact q1 (by omega)
theorem p_cheap {d : Nat} {σ : zM} (h : zInv σ) {n i : Int} : zC (d + 41) 52 [vR 0, vI n, vI i] σ (fun σ1 r1 => zC (d + 6) 109 [vR 27, vI n, vI i] σ1 (zpq σ1 r1)) := by
  obtain ⟨C, law, least, draw, l, p, hg, hx, hy⟩ := h.1
  refine x_cheap (d := d + 1) hg hx (fun q => y_cheap hg hy (fun _ => ⟨⟨_, rfl, rfl⟩, h⟩) (fun N e1 e2 e3 e4 e5 => absurd ⟨⟨by omega, by omega⟩, e4, by omega⟩ q) (fun N e1 e2 e3 e4 e5 => absurd ⟨⟨by omega, by omega⟩, e4, by omega⟩ q) (fun N e1 e2 e3 e4 e5 => absurd ⟨⟨by omega, by omega⟩, e4, by omega⟩ q)) (fun N e1 e2 e3 e4 e5 e6 τ f => ?_) (fun N e1 e2 e3 e4 e5 e6 e7 τ f => ?_) (fun N e1 e2 e3 e4 e5 e6 e7 τ f => ?_)
  · have hy2 : zYn (τ.2 12) C law least draw l p := by rw [f.2 12 (by decide)]; exact hy
    refine y_cheap hg hy2 (fun q => absurd ⟨⟨by omega, by omega⟩, e4, by omega⟩ q) (fun N2 g1 _ _ _ _ g6 υ f2 => ⟨⟨_, rfl, rfl⟩, zInv_fr (zInv_fr h f (by decide) (by decide)) f2 (by decide) (by decide)⟩) (fun N2 g1 _ _ _ _ g6 => ?_) (fun N2 g1 _ _ _ _ g6 => ?_)
    · obtain rfl : N2 = N := by omega
      exact absurd e6 g6
    · obtain rfl : N2 = N := by omega
      exact absurd e6 g6
  · have hy2 : zYn (τ.2 12) C law least draw l p := by rw [f.2 12 (by decide)]; exact hy
    refine y_cheap hg hy2 (fun q => absurd ⟨⟨by omega, by omega⟩, e4, by omega⟩ q) (fun N2 g1 _ _ _ _ g6 => ?_) (fun N2 g1 _ _ _ _ g6 g7 υ f2 => ?_) (fun N2 g1 _ _ _ _ g6 g7 => absurd g7 (by omega))
    · obtain rfl : N2 = N := by omega
      exact absurd g6 e6
    · obtain rfl : N2 = N := by omega
      exact ⟨⟨_, rfl, rfl⟩, zInv_fr (zInv_fr h f (by decide) (by decide)) f2 (by decide) (by decide)⟩
  · have hy2 : zYn (τ.2 12) C law least draw l p := by rw [f.2 12 (by decide)]; exact hy
    refine y_cheap hg hy2 (fun q => absurd ⟨⟨by omega, by omega⟩, e4, by omega⟩ q) (fun N2 g1 _ _ _ _ g6 => ?_) (fun N2 g1 _ _ _ _ g6 g7 => absurd g7 (by omega)) (fun N2 g1 _ _ _ _ g6 g7 υ f2 => ?_)
    · obtain rfl : N2 = N := by omega
      exact absurd g6 e6
    · obtain rfl : N2 = N := by omega
      exact ⟨⟨_, rfl, rfl⟩, zInv_fr (zInv_fr h f (by decide) (by decide)) f2 (by decide) (by decide)⟩
