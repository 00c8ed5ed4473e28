/-! isRing, rings, ring: the two alike -/
theorem y_isRing {d : Nat} {σ : zM} {K : zM → Option zV → Prop} {law least : Int} {q : List Int} {n : Int} (hL : 0 ≤ law ∧ law ≤ 3) (hM : 1 ≤ least ∧ least ≤ 9) (h12 : σ.2 12 1 = law) (h13 : σ.2 12 2 = least) (hn : n = q.length) (hn1 : 1 ≤ q.length) (hn8 : q.length ≤ 8) (hc : zcol q) (hfq : zfau law least q = 0) (hrs : zrs σ q) (q1 : ∀ υ, zfr [] [18, 19, 21] σ υ → zrs υ q → K υ (some (vI (zb1 (zringb law least q))))) : zC (d + 4 + 1) 106 [vR (27), vI (n)] σ K := by
  refine zC_in rfl ?_
  have lp4 : ∀ (m : Nat) (k : Nat) (r : Int) (τ : zM), q.length - k = m → k ≤ q.length → (r = 0 ∨ r = 1) → zfr [] [18, 19, 21] σ τ → (∀ j, j < q.length → τ.2 21 j = zlf q j) → (∀ j, j < k → τ.2 18 j = zlf q j) → (∀ υ, zfr [] [18, 19, 21] σ υ → zrs υ q → K υ (some (vI r))) → zG (d + 4) 106 K 0 zfx (93, [vR (27), vI (n), vI (r), vI ((k : Int)), vU], [], τ) := by
    intro m
    induction m using Nat.strongRecOn with
    | _ m ih =>
    intro k r τ hm g1 hr hf hd ha hq
    refine r_iload k_106_93 rfl ?_
    refine r_iload k_106_94 rfl ?_
    refine r_ic_ge k_106_95 (fun h95 => ?_) (fun h95 => ?_)
    · skip
      refine r_iload k_106_116 rfl ?_
      refine r_zret k_106_117 (by omega) ?_
      exact hq _ hf (fun j hj => ha j (by omega))
    · skip
      refine r_aload k_106_98 rfl ?_
      refine r_getR (q := 34) k_106_99 ⟨rfl, rfl⟩ ?_
      refine r_iload k_106_102 rfl ?_
      refine r_aload k_106_103 rfl ?_
      refine r_getR (q := 37) k_106_104 ⟨rfl, rfl⟩ ?_
      refine r_iload k_106_107 rfl ?_
      refine r_iald (v := (zlf q k)) k_106_108 ⟨rfl, rfl⟩ ⟨by omega, by omega⟩ (by rw [show ((k : Nat) : Int).toNat = k by omega]; exact hd k (by omega)) ?_
      refine r_iast k_106_109 ⟨rfl, rfl⟩ ⟨by omega, by omega⟩ ?_
      refine r_iinc (v := (k : Int) + 1) (L' := [vR (27), vI (n), vI (r), vI ((k : Int) + 1), vU]) k_106_110 rfl (zb_add ⟨by omega, by omega⟩) rfl ?_
      refine r_goto k_106_113 ?_
      refine ih _ (by omega) (k + 1) r _ rfl (by omega) hr (zfr_A hf (by decide)) (fun j hj => hd j hj) (fun j hj => ?_) hq
      rw [zA_2, show ((k : Nat) : Int).toNat = k by omega]
      by_cases e : j = k
      · subst e; exact zup_1 _ _ _
      · rw [zup_n e]; exact ha j (by omega)
  have lp2x : ∀ (m : Nat) (f : Nat) (τ : zM), f ≤ 100 → zfr [] [18, 19, 21] σ τ → (∀ j, j < q.length → τ.2 21 j = zlf q j) → (∀ υ, zfr [] [18, 19, 21] σ υ → zrs υ q → K υ (some (vI 0))) → zG (d + 4) 106 K 0 zfx (29, [vR (27), vI (n), vI (0), vI ((f : Int)), vU], [], τ) := by
    intro m
    induction m using Nat.strongRecOn with
    | _ m ih =>
    intro f τ h100 hf hd hq
    refine r_iload k_106_29 rfl ?_
    refine r_iload k_106_30 rfl ?_
    refine r_ic_ge k_106_31 (fun h31 => ?_) (fun h31 => ?_)
    · skip
      refine r_const k_106_91 ?_
      refine r_istore (L' := [vR (27), vI (n), vI (0), vI (0), vU]) k_106_92 rfl ?_
      exact lp4 _ 0 0 _ rfl (by omega) (Or.inl rfl) hf hd (fun j hj => absurd hj (Nat.not_lt_zero _)) hq
    · skip
      refine r_iload k_106_34 rfl ?_
      refine r_if_eq k_106_35 (fun _ => ?_) (fun hz => absurd hz (by decide))
      refine r_const k_106_91 ?_
      refine r_istore (L' := [vR (27), vI (n), vI (0), vI (0), vU]) k_106_92 rfl ?_
      exact lp4 _ 0 0 _ rfl (by omega) (Or.inl rfl) hf hd (fun j hj => absurd hj (Nat.not_lt_zero _)) hq
  have lp3 : ∀ (m : Nat) (f k : Nat) (τ : zM), q.length - k = m → k ≤ q.length → 1 ≤ f → f < q.length → zfr [] [18, 19, 21] σ τ → (∀ j, j < q.length → τ.2 21 j = zlf q j) → (∀ j, j < k → τ.2 18 j = zlf (zrot q f) j) → (∀ υ, zfr [] [18, 19, 21] σ υ → (∀ j, j < q.length → υ.2 21 j = zlf q j) → zrs υ (zrot q f) → zG (d + 4) 106 K 0 zfx (71, [vR 27, vI n, vI 1, vI f, vU], [], υ)) → zG (d + 4) 106 K 0 zfx (41, [vR (27), vI (n), vI (1), vI ((f : Int)), vI ((k : Int))], [], τ) := by
    intro m
    induction m using Nat.strongRecOn with
    | _ m ih =>
    intro f k τ hm g1 f1 f2 hf hd ha hq
    refine r_iload k_106_41 rfl ?_
    refine r_iload k_106_43 rfl ?_
    refine r_ic_ge k_106_44 (fun h44 => ?_) (fun h44 => ?_)
    · skip
      refine r_cut (L' := [vR 27, vI n, vI 1, vI (f : Int), vU]) 4 rfl ?_
      exact hq _ hf hd (fun j hj => ha j (by rw [zrot_len] at hj; omega))
    · skip
      refine r_aload k_106_47 rfl ?_
      refine r_getR (q := 34) k_106_48 ⟨rfl, rfl⟩ ?_
      refine r_iload k_106_51 rfl ?_
      refine r_aload k_106_53 rfl ?_
      refine r_getR (q := 37) k_106_54 ⟨rfl, rfl⟩ ?_
      refine r_iload k_106_57 rfl ?_
      refine r_iload k_106_58 rfl ?_
      refine r_bin (v := (f : Int) + ((k : Int))) k_106_60 (zb_add ⟨by omega, by omega⟩) ?_
      refine r_iload k_106_61 rfl ?_
      refine r_rem (v := (((f + k) % q.length : Nat) : Int)) k_106_62 (by omega) (by rw [zd_rem (by omega) ⟨by omega, by omega⟩ (by omega) ⟨by omega, by omega⟩, hn]; exact (Int.natCast_emod _ _).symm) ?_
      refine r_iald (v := (zlf (zrot q f) k)) k_106_63 ⟨rfl, rfl⟩ ⟨by omega, by have := Nat.mod_lt (f + k) (show 0 < q.length by omega); omega⟩ (by rw [Int.toNat_natCast, zrot_lf (by omega)]; exact hd _ (Nat.mod_lt _ (by omega))) ?_
      refine r_iast k_106_64 ⟨rfl, rfl⟩ ⟨by omega, by omega⟩ ?_
      refine r_iinc (v := (k : Int) + 1) (L' := [vR (27), vI (n), vI (1), vI ((f : Int)), vI ((k : Int) + 1)]) k_106_65 rfl (zb_add ⟨by omega, by omega⟩) rfl ?_
      refine r_goto k_106_68 ?_
      refine ih _ (by omega) f (k + 1) _ rfl (by omega) f1 f2 (zfr_A hf (by decide)) (fun j hj => hd j hj) (fun j hj => ?_) hq
      rw [zA_2, show ((k : Nat) : Int).toNat = k by omega]
      by_cases e : j = k
      · subst e; exact zup_1 _ _ _
      · rw [zup_n e]; exact ha j (by omega)
  have lp2 : ∀ (m : Nat) (f : Nat) (τ : zM), 9 - f = m → 1 ≤ f → f ≤ 8 → zfr [] [18, 19, 21] σ τ → (∀ j, j < q.length → τ.2 21 j = zlf q j) → (∀ j, 1 ≤ j → j < f → zfau law least (zrot q j) = 0) → (∀ υ, zfr [] [18, 19, 21] σ υ → zrs υ q → K υ (some (vI (zb1 (zringb law least q))))) → zG (d + 4) 106 K 0 zfx (29, [vR (27), vI (n), vI (1), vI ((f : Int)), vU], [], τ) := by
    intro m
    induction m using Nat.strongRecOn with
    | _ m ih =>
    intro f τ hm f1 f8 hf hd ha hq
    refine r_iload k_106_29 rfl ?_
    refine r_iload k_106_30 rfl ?_
    refine r_ic_ge k_106_31 (fun h31 => ?_) (fun h31 => ?_)
    · skip
      refine r_const k_106_91 ?_
      refine r_istore (L' := [vR (27), vI (n), vI (1), vI (0), vU]) k_106_92 rfl ?_
      exact lp4 _ 0 1 _ rfl (by omega) (Or.inr rfl) hf hd (fun j hj => absurd hj (Nat.not_lt_zero _)) (fun υ fv zv => zKe (hq υ fv zv) (zb1_t ((zringb_rot hM.1 hfq).mpr (fun j h1 h2 => ha j h1 (by omega)))))
    · skip
      refine r_iload k_106_34 rfl ?_
      refine r_if_eq k_106_35 (fun hz => absurd hz (by decide)) (fun _ => ?_)
      refine r_const k_106_38 ?_
      refine r_istore (L' := [vR (27), vI (n), vI (1), vI ((f : Int)), vI (0)]) k_106_39 rfl ?_
      refine lp3 _ f 0 _ rfl (by omega) f1 (by omega) hf hd (fun j hj => absurd hj (Nat.not_lt_zero _)) (fun υ fu du zu => ?_)
      refine r_aload k_106_71 rfl ?_
      refine r_iload k_106_72 rfl ?_
      refine r_call (as := [vR (27), vI (n)]) (r := []) k_106_73 rfl rfl rfl ?_
      have hrl := zrot_len q f
      refine t_faultsl (l := zrot q f) hL hM ((congrFun (fu.2 12 (by decide)) 1).trans h12) ((congrFun (fu.2 12 (by decide)) 2).trans h13) zu (fun x hx => by
        obtain ⟨j, hj, e⟩ := zmem_lf hx
        rw [hrl] at hj
        rw [zrot_lf hj] at e
        rw [← e]; exact hc _ (zlf_mem (Nat.mod_lt _ (by omega)))) (by omega) (by omega) (fun τ9 f9 => ?_)
      have F9 : zfr [] [18, 19, 21] σ τ9 := zfr_2 fu f9 (by decide) (by decide)
      have D9 : ∀ j, j < q.length → τ9.2 21 j = zlf q j := fun j hj => by rw [f9.2 21 (by decide)]; exact du j hj
      refine r_if_ne k_106_76 (fun h76 => ?_) (fun h76 => ?_)
      · skip
        refine r_const k_106_83 ?_
        refine r_istore (L' := [vR (27), vI (n), vI (0), vI ((f : Int)), vU]) k_106_84 rfl ?_
        refine r_iinc (v := (f : Int) + 1) (L' := [vR (27), vI (n), vI (0), vI ((f : Int) + 1), vU]) k_106_85 rfl (zb_add ⟨by omega, by omega⟩) rfl ?_
        refine r_goto k_106_88 ?_
        exact lp2x 0 (f + 1) _ (by omega) F9 D9 (fun υ fv zv => zKe (hq υ fv zv) (zb1_f (by
          cases hb : zringb law least q with
          | false => rfl
          | true => exact absurd ((zringb_rot hM.1 hfq).mp hb f f1 (by omega)) (by omega))))
      · skip
        refine r_const k_106_79 ?_
        refine r_goto k_106_80 ?_
        refine r_istore (L' := [vR (27), vI (n), vI (1), vI ((f : Int)), vU]) k_106_84 rfl ?_
        refine r_iinc (v := (f : Int) + 1) (L' := [vR (27), vI (n), vI (1), vI ((f : Int) + 1), vU]) k_106_85 rfl (zb_add ⟨by omega, by omega⟩) rfl ?_
        refine r_goto k_106_88 ?_
        refine ih _ (by omega) (f + 1) _ rfl (by omega) (by omega) F9 D9 (fun j h1 h2 => ?_) hq
        by_cases e : j = f
        · subst e; omega
        · exact ha j h1 (by omega)
  have lp1 : ∀ (m : Nat) (k : Nat) (τ : zM), q.length - k = m → k ≤ q.length → zfr [] [18, 19, 21] σ τ → zrs τ q → (∀ j, j < k → τ.2 21 j = zlf q j) → zG (d + 4) 106 K 0 zfx (2, [vR (27), vI (n), vI ((k : Int)), vU, vU], [], τ) := by
    intro m
    induction m using Nat.strongRecOn with
    | _ m ih =>
    intro k τ hm g1 hf hz ha
    refine r_iload k_106_2 rfl ?_
    refine r_iload k_106_3 rfl ?_
    refine r_ic_ge k_106_4 (fun h4 => ?_) (fun h4 => ?_)
    · skip
      refine r_const k_106_25 ?_
      refine r_istore (L' := [vR (27), vI (n), vI (1), vU, vU]) k_106_26 rfl ?_
      refine r_const k_106_27 ?_
      refine r_istore (L' := [vR (27), vI (n), vI (1), vI (1), vU]) k_106_28 rfl ?_
      exact lp2 _ 1 _ rfl (by omega) (by omega) hf (fun j hj => ha j (by omega)) (fun j h1 h2 => absurd h1 (by omega)) q1
    · skip
      refine r_aload k_106_7 rfl ?_
      refine r_getR (q := 37) k_106_8 ⟨rfl, rfl⟩ ?_
      refine r_iload k_106_11 rfl ?_
      refine r_aload k_106_12 rfl ?_
      refine r_getR (q := 34) k_106_13 ⟨rfl, rfl⟩ ?_
      refine r_iload k_106_16 rfl ?_
      refine r_iald (v := (zlf q k)) k_106_17 ⟨rfl, rfl⟩ ⟨by omega, by omega⟩ (by rw [show ((k : Nat) : Int).toNat = k by omega]; exact hz k (by omega)) ?_
      refine r_iast k_106_18 ⟨rfl, rfl⟩ ⟨by omega, by omega⟩ ?_
      refine r_iinc (v := (k : Int) + 1) (L' := [vR (27), vI (n), vI ((k : Int) + 1), vU, vU]) k_106_19 rfl (zb_add ⟨by omega, by omega⟩) rfl ?_
      refine r_goto k_106_22 ?_
      refine ih _ (by omega) (k + 1) _ rfl (by omega) (zfr_A hf (by decide)) (fun j hj => hz j hj) (fun j hj => ?_)
      rw [zA_2, show ((k : Nat) : Int).toNat = k by omega]
      by_cases e : j = k
      · subst e; exact zup_1 _ _ _
      · rw [zup_n e]; exact ha j (by omega)
  show zG (d + 4) 106 K 0 zfx (0, [vR (27), vI (n), vU, vU, vU], [], σ)
  refine r_const k_106_0 ?_
  refine r_istore (L' := [vR (27), vI (n), vI (0), vU, vU]) k_106_1 rfl ?_
  exact lp1 _ 0 σ rfl (by omega) zfr_rf hrs (fun j hj => absurd hj (Nat.not_lt_zero _))
