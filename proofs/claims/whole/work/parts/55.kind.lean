/-! kind: the two alike -/
def zpc (v : Int) : Int := match v.toNat with | 1 => 1 | 2 => 1 | 3 => 2 | 4 => 1 | 5 => 2 | 6 => 2 | 7 => 3 | 8 => 1 | 9 => 2 | 10 => 2 | 11 => 3 | 12 => 2 | 13 => 3 | 14 => 3 | 15 => 4 | _ => 0
theorem z16 {v : Int} (h : 0 ≤ v ∧ v < 16) : v = 0 ∨ v = 1 ∨ v = 2 ∨ v = 3 ∨ v = 4 ∨ v = 5 ∨ v = 6 ∨ v = 7 ∨ v = 8 ∨ v = 9 ∨ v = 10 ∨ v = 11 ∨ v = 12 ∨ v = 13 ∨ v = 14 ∨ v = 15 := by omega
theorem zpc_b {v : Int} (h : 0 ≤ v ∧ v < 16) : 0 ≤ zpc v ∧ zpc v ≤ 4 := by
  rcases z16 h with rfl | rfl | rfl | rfl | rfl | rfl | rfl | rfl | rfl | rfl | rfl | rfl | rfl | rfl | rfl | rfl <;> decide
theorem zpc_0 {v : Int} (h : 0 ≤ v ∧ v < 16) : zpc v = 0 ↔ v = 0 := by
  rcases z16 h with rfl | rfl | rfl | rfl | rfl | rfl | rfl | rfl | rfl | rfl | rfl | rfl | rfl | rfl | rfl | rfl <;> decide
/-- the lowest one taken out -/
theorem zpc_s {v : Int} (h : 0 ≤ v ∧ v < 16) (h0 : v ≠ 0) : (0 ≤ zbin 3 v (v - 1) ∧ zbin 3 v (v - 1) < 16) ∧ zpc v = zpc (zbin 3 v (v - 1)) + 1 := by
  rcases z16 h with rfl | rfl | rfl | rfl | rfl | rfl | rfl | rfl | rfl | rfl | rfl | rfl | rfl | rfl | rfl | rfl <;> first | exact absurd rfl h0 | decide +kernel
theorem y_bits {d : Nat} {σ : zM} {K : zM → Option zV → Prop} {v : Int} (hv : 0 ≤ v ∧ v < 16) (q1 : K σ (some (vI (zpc v)))) : zC (d + 1) 84 [vI (v)] σ K := by
  refine zC_in rfl ?_
  have lp : ∀ (n : Nat) (k left : Int), (zpc left).toNat = n → (0 ≤ left ∧ left < 16) → 0 ≤ k → k ≤ 100 → zpc v = k + zpc left → zG (d) 84 K 0 zfx (4, [vI (v), vI (k), vI (left)], [], σ) := by
    intro n
    induction n using Nat.strongRecOn with
    | _ n ih =>
    intro k left hn hb h0 h1 hp
    refine r_iload k_84_4 rfl ?_
    refine r_if_eq k_84_5 (fun h5 => ?_) (fun h5 => ?_)
    · skip
      refine r_iload k_84_20 rfl ?_
      refine r_iret k_84_21 ?_
      have e : left = 0 := by omega
      subst e
      have e2 : zpc 0 = 0 := rfl
      exact zKe q1 (by omega)
    · skip
      refine r_iinc (v := k + 1) (L' := [vI (v), vI (k + 1), vI (left)]) k_84_8 rfl (zb_add ⟨by omega, by omega⟩) rfl ?_
      refine r_iload k_84_11 rfl ?_
      refine r_iload k_84_12 rfl ?_
      refine r_const k_84_13 ?_
      refine r_bin (v := left - 1) k_84_14 (zb_sub ⟨by omega, by omega⟩) ?_
      refine r_bin (v := (zbin 3 left (left - 1))) k_84_15 rfl ?_
      refine r_istore (L' := [vI (v), vI (k + 1), vI ((zbin 3 left (left - 1)))]) k_84_16 rfl ?_
      refine r_goto k_84_17 ?_
      obtain ⟨hs1, hs2⟩ := zpc_s hb (by omega)
      have hb2 := zpc_b hs1
      exact ih _ (by omega) (k + 1) _ rfl hs1 (by omega) (by have := zpc_b hv; omega) (by omega)
  show zG (d) 84 K 0 zfx (0, [vI (v), vU, vU], [], σ)
  refine r_const k_84_0 ?_
  refine r_istore (L' := [vI (v), vI (0), vU]) k_84_1 rfl ?_
  refine r_iload k_84_2 rfl ?_
  refine r_istore (L' := [vI (v), vI (0), vI (v)]) k_84_3 rfl ?_
  exact lp _ 0 v rfl hv (by decide) (by decide) (by omega)
theorem zpc_j {v : Int} (h : 0 ≤ v ∧ v < 16) : zbin 3 (zbin 0 (zbin 0 (zbin 3 (zbin 0 (zbin 0 (zbin 3 (zbin 1 v (zbin 3 (zbin 7 v 1) 1431655765)) 858993459) (zbin 3 (zbin 7 (zbin 1 v (zbin 3 (zbin 7 v 1) 1431655765)) 2) 858993459)) (zbin 7 (zbin 0 (zbin 3 (zbin 1 v (zbin 3 (zbin 7 v 1) 1431655765)) 858993459) (zbin 3 (zbin 7 (zbin 1 v (zbin 3 (zbin 7 v 1) 1431655765)) 2) 858993459)) 4)) 252645135) (zbin 7 (zbin 3 (zbin 0 (zbin 0 (zbin 3 (zbin 1 v (zbin 3 (zbin 7 v 1) 1431655765)) 858993459) (zbin 3 (zbin 7 (zbin 1 v (zbin 3 (zbin 7 v 1) 1431655765)) 2) 858993459)) (zbin 7 (zbin 0 (zbin 3 (zbin 1 v (zbin 3 (zbin 7 v 1) 1431655765)) 858993459) (zbin 3 (zbin 7 (zbin 1 v (zbin 3 (zbin 7 v 1) 1431655765)) 2) 858993459)) 4)) 252645135) 8)) (zbin 7 (zbin 0 (zbin 3 (zbin 0 (zbin 0 (zbin 3 (zbin 1 v (zbin 3 (zbin 7 v 1) 1431655765)) 858993459) (zbin 3 (zbin 7 (zbin 1 v (zbin 3 (zbin 7 v 1) 1431655765)) 2) 858993459)) (zbin 7 (zbin 0 (zbin 3 (zbin 1 v (zbin 3 (zbin 7 v 1) 1431655765)) 858993459) (zbin 3 (zbin 7 (zbin 1 v (zbin 3 (zbin 7 v 1) 1431655765)) 2) 858993459)) 4)) 252645135) (zbin 7 (zbin 3 (zbin 0 (zbin 0 (zbin 3 (zbin 1 v (zbin 3 (zbin 7 v 1) 1431655765)) 858993459) (zbin 3 (zbin 7 (zbin 1 v (zbin 3 (zbin 7 v 1) 1431655765)) 2) 858993459)) (zbin 7 (zbin 0 (zbin 3 (zbin 1 v (zbin 3 (zbin 7 v 1) 1431655765)) 858993459) (zbin 3 (zbin 7 (zbin 1 v (zbin 3 (zbin 7 v 1) 1431655765)) 2) 858993459)) 4)) 252645135) 8)) 16)) 63 = zpc v := by
  rcases z16 h with rfl | rfl | rfl | rfl | rfl | rfl | rfl | rfl | rfl | rfl | rfl | rfl | rfl | rfl | rfl | rfl <;> decide +kernel
theorem j_bits {d : Nat} {σ : zM} {K : zM → Option zV → Prop} {v : Int} (hv : 0 ≤ v ∧ v < 16) (q1 : K σ (some (vI (zpc v)))) : zC (d + 1) 137 [vI v] σ K := by
  refine zC_in rfl ?_
  have e := zpc_j hv
  show zG (d) 137 K 0 zfx (0, [vI (v)], [], σ)
  refine r_iload k_137_0 rfl ?_
  refine r_iload k_137_1 rfl ?_
  refine r_const k_137_2 ?_
  refine r_bin (v := zbin 7 v 1) k_137_3 rfl ?_
  refine r_const k_137_4 ?_
  refine r_bin (v := zbin 3 (zbin 7 v 1) 1431655765) k_137_7 rfl ?_
  refine r_bin (v := zbin 1 v (zbin 3 (zbin 7 v 1) 1431655765)) k_137_8 rfl ?_
  refine r_istore (L' := [vI (zbin 1 v (zbin 3 (zbin 7 v 1) 1431655765))]) k_137_9 rfl ?_
  refine r_iload k_137_10 rfl ?_
  refine r_const k_137_11 ?_
  refine r_bin (v := zbin 3 (zbin 1 v (zbin 3 (zbin 7 v 1) 1431655765)) 858993459) k_137_14 rfl ?_
  refine r_iload k_137_15 rfl ?_
  refine r_const k_137_16 ?_
  refine r_bin (v := zbin 7 (zbin 1 v (zbin 3 (zbin 7 v 1) 1431655765)) 2) k_137_17 rfl ?_
  refine r_const k_137_18 ?_
  refine r_bin (v := zbin 3 (zbin 7 (zbin 1 v (zbin 3 (zbin 7 v 1) 1431655765)) 2) 858993459) k_137_21 rfl ?_
  refine r_bin (v := zbin 0 (zbin 3 (zbin 1 v (zbin 3 (zbin 7 v 1) 1431655765)) 858993459) (zbin 3 (zbin 7 (zbin 1 v (zbin 3 (zbin 7 v 1) 1431655765)) 2) 858993459)) k_137_22 rfl ?_
  refine r_istore (L' := [vI (zbin 0 (zbin 3 (zbin 1 v (zbin 3 (zbin 7 v 1) 1431655765)) 858993459) (zbin 3 (zbin 7 (zbin 1 v (zbin 3 (zbin 7 v 1) 1431655765)) 2) 858993459))]) k_137_23 rfl ?_
  refine r_iload k_137_24 rfl ?_
  refine r_iload k_137_25 rfl ?_
  refine r_const k_137_26 ?_
  refine r_bin (v := zbin 7 (zbin 0 (zbin 3 (zbin 1 v (zbin 3 (zbin 7 v 1) 1431655765)) 858993459) (zbin 3 (zbin 7 (zbin 1 v (zbin 3 (zbin 7 v 1) 1431655765)) 2) 858993459)) 4) k_137_27 rfl ?_
  refine r_bin (v := zbin 0 (zbin 0 (zbin 3 (zbin 1 v (zbin 3 (zbin 7 v 1) 1431655765)) 858993459) (zbin 3 (zbin 7 (zbin 1 v (zbin 3 (zbin 7 v 1) 1431655765)) 2) 858993459)) (zbin 7 (zbin 0 (zbin 3 (zbin 1 v (zbin 3 (zbin 7 v 1) 1431655765)) 858993459) (zbin 3 (zbin 7 (zbin 1 v (zbin 3 (zbin 7 v 1) 1431655765)) 2) 858993459)) 4)) k_137_28 rfl ?_
  refine r_const k_137_29 ?_
  refine r_bin (v := zbin 3 (zbin 0 (zbin 0 (zbin 3 (zbin 1 v (zbin 3 (zbin 7 v 1) 1431655765)) 858993459) (zbin 3 (zbin 7 (zbin 1 v (zbin 3 (zbin 7 v 1) 1431655765)) 2) 858993459)) (zbin 7 (zbin 0 (zbin 3 (zbin 1 v (zbin 3 (zbin 7 v 1) 1431655765)) 858993459) (zbin 3 (zbin 7 (zbin 1 v (zbin 3 (zbin 7 v 1) 1431655765)) 2) 858993459)) 4)) 252645135) k_137_32 rfl ?_
  refine r_istore (L' := [vI (zbin 3 (zbin 0 (zbin 0 (zbin 3 (zbin 1 v (zbin 3 (zbin 7 v 1) 1431655765)) 858993459) (zbin 3 (zbin 7 (zbin 1 v (zbin 3 (zbin 7 v 1) 1431655765)) 2) 858993459)) (zbin 7 (zbin 0 (zbin 3 (zbin 1 v (zbin 3 (zbin 7 v 1) 1431655765)) 858993459) (zbin 3 (zbin 7 (zbin 1 v (zbin 3 (zbin 7 v 1) 1431655765)) 2) 858993459)) 4)) 252645135)]) k_137_33 rfl ?_
  refine r_iload k_137_34 rfl ?_
  refine r_iload k_137_35 rfl ?_
  refine r_const k_137_36 ?_
  refine r_bin (v := zbin 7 (zbin 3 (zbin 0 (zbin 0 (zbin 3 (zbin 1 v (zbin 3 (zbin 7 v 1) 1431655765)) 858993459) (zbin 3 (zbin 7 (zbin 1 v (zbin 3 (zbin 7 v 1) 1431655765)) 2) 858993459)) (zbin 7 (zbin 0 (zbin 3 (zbin 1 v (zbin 3 (zbin 7 v 1) 1431655765)) 858993459) (zbin 3 (zbin 7 (zbin 1 v (zbin 3 (zbin 7 v 1) 1431655765)) 2) 858993459)) 4)) 252645135) 8) k_137_38 rfl ?_
  refine r_bin (v := zbin 0 (zbin 3 (zbin 0 (zbin 0 (zbin 3 (zbin 1 v (zbin 3 (zbin 7 v 1) 1431655765)) 858993459) (zbin 3 (zbin 7 (zbin 1 v (zbin 3 (zbin 7 v 1) 1431655765)) 2) 858993459)) (zbin 7 (zbin 0 (zbin 3 (zbin 1 v (zbin 3 (zbin 7 v 1) 1431655765)) 858993459) (zbin 3 (zbin 7 (zbin 1 v (zbin 3 (zbin 7 v 1) 1431655765)) 2) 858993459)) 4)) 252645135) (zbin 7 (zbin 3 (zbin 0 (zbin 0 (zbin 3 (zbin 1 v (zbin 3 (zbin 7 v 1) 1431655765)) 858993459) (zbin 3 (zbin 7 (zbin 1 v (zbin 3 (zbin 7 v 1) 1431655765)) 2) 858993459)) (zbin 7 (zbin 0 (zbin 3 (zbin 1 v (zbin 3 (zbin 7 v 1) 1431655765)) 858993459) (zbin 3 (zbin 7 (zbin 1 v (zbin 3 (zbin 7 v 1) 1431655765)) 2) 858993459)) 4)) 252645135) 8)) k_137_39 rfl ?_
  refine r_istore (L' := [vI (zbin 0 (zbin 3 (zbin 0 (zbin 0 (zbin 3 (zbin 1 v (zbin 3 (zbin 7 v 1) 1431655765)) 858993459) (zbin 3 (zbin 7 (zbin 1 v (zbin 3 (zbin 7 v 1) 1431655765)) 2) 858993459)) (zbin 7 (zbin 0 (zbin 3 (zbin 1 v (zbin 3 (zbin 7 v 1) 1431655765)) 858993459) (zbin 3 (zbin 7 (zbin 1 v (zbin 3 (zbin 7 v 1) 1431655765)) 2) 858993459)) 4)) 252645135) (zbin 7 (zbin 3 (zbin 0 (zbin 0 (zbin 3 (zbin 1 v (zbin 3 (zbin 7 v 1) 1431655765)) 858993459) (zbin 3 (zbin 7 (zbin 1 v (zbin 3 (zbin 7 v 1) 1431655765)) 2) 858993459)) (zbin 7 (zbin 0 (zbin 3 (zbin 1 v (zbin 3 (zbin 7 v 1) 1431655765)) 858993459) (zbin 3 (zbin 7 (zbin 1 v (zbin 3 (zbin 7 v 1) 1431655765)) 2) 858993459)) 4)) 252645135) 8))]) k_137_40 rfl ?_
  refine r_iload k_137_41 rfl ?_
  refine r_iload k_137_42 rfl ?_
  refine r_const k_137_43 ?_
  refine r_bin (v := zbin 7 (zbin 0 (zbin 3 (zbin 0 (zbin 0 (zbin 3 (zbin 1 v (zbin 3 (zbin 7 v 1) 1431655765)) 858993459) (zbin 3 (zbin 7 (zbin 1 v (zbin 3 (zbin 7 v 1) 1431655765)) 2) 858993459)) (zbin 7 (zbin 0 (zbin 3 (zbin 1 v (zbin 3 (zbin 7 v 1) 1431655765)) 858993459) (zbin 3 (zbin 7 (zbin 1 v (zbin 3 (zbin 7 v 1) 1431655765)) 2) 858993459)) 4)) 252645135) (zbin 7 (zbin 3 (zbin 0 (zbin 0 (zbin 3 (zbin 1 v (zbin 3 (zbin 7 v 1) 1431655765)) 858993459) (zbin 3 (zbin 7 (zbin 1 v (zbin 3 (zbin 7 v 1) 1431655765)) 2) 858993459)) (zbin 7 (zbin 0 (zbin 3 (zbin 1 v (zbin 3 (zbin 7 v 1) 1431655765)) 858993459) (zbin 3 (zbin 7 (zbin 1 v (zbin 3 (zbin 7 v 1) 1431655765)) 2) 858993459)) 4)) 252645135) 8)) 16) k_137_45 rfl ?_
  refine r_bin (v := zbin 0 (zbin 0 (zbin 3 (zbin 0 (zbin 0 (zbin 3 (zbin 1 v (zbin 3 (zbin 7 v 1) 1431655765)) 858993459) (zbin 3 (zbin 7 (zbin 1 v (zbin 3 (zbin 7 v 1) 1431655765)) 2) 858993459)) (zbin 7 (zbin 0 (zbin 3 (zbin 1 v (zbin 3 (zbin 7 v 1) 1431655765)) 858993459) (zbin 3 (zbin 7 (zbin 1 v (zbin 3 (zbin 7 v 1) 1431655765)) 2) 858993459)) 4)) 252645135) (zbin 7 (zbin 3 (zbin 0 (zbin 0 (zbin 3 (zbin 1 v (zbin 3 (zbin 7 v 1) 1431655765)) 858993459) (zbin 3 (zbin 7 (zbin 1 v (zbin 3 (zbin 7 v 1) 1431655765)) 2) 858993459)) (zbin 7 (zbin 0 (zbin 3 (zbin 1 v (zbin 3 (zbin 7 v 1) 1431655765)) 858993459) (zbin 3 (zbin 7 (zbin 1 v (zbin 3 (zbin 7 v 1) 1431655765)) 2) 858993459)) 4)) 252645135) 8)) (zbin 7 (zbin 0 (zbin 3 (zbin 0 (zbin 0 (zbin 3 (zbin 1 v (zbin 3 (zbin 7 v 1) 1431655765)) 858993459) (zbin 3 (zbin 7 (zbin 1 v (zbin 3 (zbin 7 v 1) 1431655765)) 2) 858993459)) (zbin 7 (zbin 0 (zbin 3 (zbin 1 v (zbin 3 (zbin 7 v 1) 1431655765)) 858993459) (zbin 3 (zbin 7 (zbin 1 v (zbin 3 (zbin 7 v 1) 1431655765)) 2) 858993459)) 4)) 252645135) (zbin 7 (zbin 3 (zbin 0 (zbin 0 (zbin 3 (zbin 1 v (zbin 3 (zbin 7 v 1) 1431655765)) 858993459) (zbin 3 (zbin 7 (zbin 1 v (zbin 3 (zbin 7 v 1) 1431655765)) 2) 858993459)) (zbin 7 (zbin 0 (zbin 3 (zbin 1 v (zbin 3 (zbin 7 v 1) 1431655765)) 858993459) (zbin 3 (zbin 7 (zbin 1 v (zbin 3 (zbin 7 v 1) 1431655765)) 2) 858993459)) 4)) 252645135) 8)) 16)) k_137_46 rfl ?_
  refine r_istore (L' := [vI (zbin 0 (zbin 0 (zbin 3 (zbin 0 (zbin 0 (zbin 3 (zbin 1 v (zbin 3 (zbin 7 v 1) 1431655765)) 858993459) (zbin 3 (zbin 7 (zbin 1 v (zbin 3 (zbin 7 v 1) 1431655765)) 2) 858993459)) (zbin 7 (zbin 0 (zbin 3 (zbin 1 v (zbin 3 (zbin 7 v 1) 1431655765)) 858993459) (zbin 3 (zbin 7 (zbin 1 v (zbin 3 (zbin 7 v 1) 1431655765)) 2) 858993459)) 4)) 252645135) (zbin 7 (zbin 3 (zbin 0 (zbin 0 (zbin 3 (zbin 1 v (zbin 3 (zbin 7 v 1) 1431655765)) 858993459) (zbin 3 (zbin 7 (zbin 1 v (zbin 3 (zbin 7 v 1) 1431655765)) 2) 858993459)) (zbin 7 (zbin 0 (zbin 3 (zbin 1 v (zbin 3 (zbin 7 v 1) 1431655765)) 858993459) (zbin 3 (zbin 7 (zbin 1 v (zbin 3 (zbin 7 v 1) 1431655765)) 2) 858993459)) 4)) 252645135) 8)) (zbin 7 (zbin 0 (zbin 3 (zbin 0 (zbin 0 (zbin 3 (zbin 1 v (zbin 3 (zbin 7 v 1) 1431655765)) 858993459) (zbin 3 (zbin 7 (zbin 1 v (zbin 3 (zbin 7 v 1) 1431655765)) 2) 858993459)) (zbin 7 (zbin 0 (zbin 3 (zbin 1 v (zbin 3 (zbin 7 v 1) 1431655765)) 858993459) (zbin 3 (zbin 7 (zbin 1 v (zbin 3 (zbin 7 v 1) 1431655765)) 2) 858993459)) 4)) 252645135) (zbin 7 (zbin 3 (zbin 0 (zbin 0 (zbin 3 (zbin 1 v (zbin 3 (zbin 7 v 1) 1431655765)) 858993459) (zbin 3 (zbin 7 (zbin 1 v (zbin 3 (zbin 7 v 1) 1431655765)) 2) 858993459)) (zbin 7 (zbin 0 (zbin 3 (zbin 1 v (zbin 3 (zbin 7 v 1) 1431655765)) 858993459) (zbin 3 (zbin 7 (zbin 1 v (zbin 3 (zbin 7 v 1) 1431655765)) 2) 858993459)) 4)) 252645135) 8)) 16))]) k_137_47 rfl ?_
  refine r_iload k_137_48 rfl ?_
  refine r_const k_137_49 ?_
  refine r_bin (v := zbin 3 (zbin 0 (zbin 0 (zbin 3 (zbin 0 (zbin 0 (zbin 3 (zbin 1 v (zbin 3 (zbin 7 v 1) 1431655765)) 858993459) (zbin 3 (zbin 7 (zbin 1 v (zbin 3 (zbin 7 v 1) 1431655765)) 2) 858993459)) (zbin 7 (zbin 0 (zbin 3 (zbin 1 v (zbin 3 (zbin 7 v 1) 1431655765)) 858993459) (zbin 3 (zbin 7 (zbin 1 v (zbin 3 (zbin 7 v 1) 1431655765)) 2) 858993459)) 4)) 252645135) (zbin 7 (zbin 3 (zbin 0 (zbin 0 (zbin 3 (zbin 1 v (zbin 3 (zbin 7 v 1) 1431655765)) 858993459) (zbin 3 (zbin 7 (zbin 1 v (zbin 3 (zbin 7 v 1) 1431655765)) 2) 858993459)) (zbin 7 (zbin 0 (zbin 3 (zbin 1 v (zbin 3 (zbin 7 v 1) 1431655765)) 858993459) (zbin 3 (zbin 7 (zbin 1 v (zbin 3 (zbin 7 v 1) 1431655765)) 2) 858993459)) 4)) 252645135) 8)) (zbin 7 (zbin 0 (zbin 3 (zbin 0 (zbin 0 (zbin 3 (zbin 1 v (zbin 3 (zbin 7 v 1) 1431655765)) 858993459) (zbin 3 (zbin 7 (zbin 1 v (zbin 3 (zbin 7 v 1) 1431655765)) 2) 858993459)) (zbin 7 (zbin 0 (zbin 3 (zbin 1 v (zbin 3 (zbin 7 v 1) 1431655765)) 858993459) (zbin 3 (zbin 7 (zbin 1 v (zbin 3 (zbin 7 v 1) 1431655765)) 2) 858993459)) 4)) 252645135) (zbin 7 (zbin 3 (zbin 0 (zbin 0 (zbin 3 (zbin 1 v (zbin 3 (zbin 7 v 1) 1431655765)) 858993459) (zbin 3 (zbin 7 (zbin 1 v (zbin 3 (zbin 7 v 1) 1431655765)) 2) 858993459)) (zbin 7 (zbin 0 (zbin 3 (zbin 1 v (zbin 3 (zbin 7 v 1) 1431655765)) 858993459) (zbin 3 (zbin 7 (zbin 1 v (zbin 3 (zbin 7 v 1) 1431655765)) 2) 858993459)) 4)) 252645135) 8)) 16)) 63) k_137_51 rfl ?_
  refine r_iret k_137_52 ?_
  exact zKe q1 e.symm
theorem zfau_t {law least : Int} {l : List Int} {n : Nat} (hn : n ≤ l.length) : zfau law least (l.take n) = 0 ↔ ¬ (zfau law least l ≠ 0 ∧ zfau law least l ≤ n) := by
  constructor
  · intro h ⟨h1, h2⟩
    have hs := zfirst_spec (C := fun e => decide (e ≤ l.length)) (P := fun e => decide (zends law least (zlf l) e ≠ 0)) (l.length + 1) 1 (zfau law least l) rfl h1
    have h3 := zfau_0.mp h (zfau law least l) hs.1 (by rw [List.length_take]; omega)
    rw [List.take_take, Nat.min_eq_left h2, ← zend_t (Nat.le_trans h2 hn)] at h3
    exact of_decide_eq_true hs.2.2.2.1 h3
  · intro h
    refine zfau_0.mpr fun e h1 h2 => ?_
    rw [List.length_take] at h2
    rw [List.take_take, Nat.min_eq_left (by omega)]
    by_cases hz : zfau law least l = 0
    · exact zfau_0.mp hz e h1 (by omega)
    · have hs := zfirst_spec (C := fun e => decide (e ≤ l.length)) (P := fun e => decide (zends law least (zlf l) e ≠ 0)) (l.length + 1) 1 (zfau law least l) rfl hz
      have h4 := (hs.2.2.2.2 e h1 (by have : ¬ zfau law least l ≤ n := fun q => h ⟨hz, q⟩; omega)).2
      rw [← zend_t (by omega)]
      exact Decidable.byContradiction fun q => by rw [decide_eq_true q] at h4; cases h4
def zkn (C : Nat) (law least : Int) (l : List Int) (k : Nat) : Int := if zfau law least (l.take (k + 1)) ≠ 0 then 2 else if zmay C law least (l.take (k + 1)) = 0 then 3 else if 1 < zpc (zmay C law least (l.take k)) then 0 else 1
theorem t_maye {d : Nat} {σ : zM} {K : zM → Option zV → Prop} {C : Nat} {law least : Int} {l : List Int} {en : Int} (hL : 0 ≤ law ∧ law ≤ 3) (hM : 1 ≤ least ∧ least ≤ 9) (hC : C ≤ 4) (h10 : σ.2 12 0 = (C : Int)) (h12 : σ.2 12 1 = law) (h13 : σ.2 12 2 = least) (hrs : zrs σ l) (hc : zcol l) (hl : l.length ≤ 78) (he : en = l.length) (q1 : ∀ τ, zfr [] [18, 19] σ τ → zrs τ l → K τ (some (vI (zset (zok law least l) C)))) : zC (d + 3) 83 [vR 27, vI en] σ K := by
  subst he
  exact t_may hL hM hC h10 h12 h13 hrs hc hl q1
theorem x_kind {d : Nat} {σ : zM} {K : zM → Option zV → Prop} {C : Nat} {law least draw : Int} {l : List Int} {p : Nat → Int} (hg : zgd C law least draw l p) (hx : zXn σ C law least draw l p) {i : Int} (q1 : ¬ (0 ≤ i ∧ i < l.length) → K σ (some (vI (-1)))) (q2 : ∀ k : Nat, i = k → k < l.length → ∀ τ, zfr [2] [2] σ τ → K τ (some (vI (zkn C law least l k)))) : zC (d + 5 + 1) 41 [vR (0), vI (i)] σ K := by
  have hl := hg.2.2.1
  have hb := hg.1
  have hC := hg.1.1
  have hC4 := hg.1.2.1
  have F0 : zfr [2] [2] σ σ := zfr_rf
  refine zC_in rfl ?_
  show zG (d + 5) 41 K 0 zfx (0, [vR (0), vI (i), vU], [], σ)
  refine r_aload k_41_0 rfl ?_
  refine r_getR (q := 1) k_41_1 ⟨rfl, rfl⟩ ?_
  refine r_getR (q := 2) k_41_4 ⟨rfl, rfl⟩ ?_
  refine r_iload k_41_7 rfl ?_
  refine r_call (as := [vR (2), vI (i)]) (r := []) k_41_8 rfl rfl rfl ?_
  refine s_has (r := 0) (by decide) (fun g8 e8 => ?_) (fun g8 => ?_)
  · skip
    rw [hx.2.1.1] at e8
    obtain ⟨k, hik⟩ : ∃ k : Nat, i = k := ⟨i.toNat, by omega⟩
    refine r_if_ne k_41_11 (fun _ => ?_) (fun hz => absurd hz (by decide))
    refine r_aload k_41_16 rfl ?_
    refine r_getR (q := 1) k_41_17 ⟨rfl, rfl⟩ ?_
    refine r_getR (q := 4) k_41_20 ⟨rfl, rfl⟩ ?_
    refine r_aload k_41_23 rfl ?_
    refine r_getR (q := 1) k_41_24 ⟨rfl, rfl⟩ ?_
    refine r_getR (q := 2) k_41_27 ⟨rfl, rfl⟩ ?_
    refine r_call (as := [vR (4), vR (2)]) (r := []) k_41_30 rfl rfl rfl ?_
    refine v_faultOf (r := 0) (l := l) (by decide) hb hx.1 hx.2.1 (zgd_c hg) (by omega) ?_
    refine r_istore (L' := [vR (0), vI (i), vI ((zfau law least l : Nat))]) k_41_33 rfl ?_
    refine r_iload k_41_34 rfl ?_
    refine r_if_eq k_41_35 (fun h35 => ?_) (fun h35 => ?_)
    · skip
      refine r_aload k_41_47 rfl ?_
      refine r_iload k_41_48 rfl ?_
      refine r_const k_41_49 ?_
      refine r_bin (v := i + 1) k_41_50 (zb_add ⟨by omega, by omega⟩) ?_
      refine r_call (as := [vR (0), vI (i + 1)]) (r := []) k_41_51 rfl rfl rfl ?_
      have eo4 : (i + 1 : Int) = ((k + 1 : Nat) : Int) := by omega
      rw [eo4]
      refine v_open (n := k + 1) hg.1 hx.1 hx.2.1 (zgd_c hg) hl (by omega) (fun τ4 f4 => ?_)
      have F4 := zfr_2 F0 f4 (by decide) (by decide)
      have Z4_0 := zis_fr hx.2.1 f4 (by decide) (by decide)
      have W4 := zrl_fr hx.1 f4 (by decide)
      refine r_if_ne k_41_54 (fun h54 => ?_) (fun h54 => ?_)
      · skip
        refine r_aload k_41_59 rfl ?_
        refine r_iload k_41_60 rfl ?_
        refine r_call (as := [vR (0), vI (i)]) (r := []) k_41_61 rfl rfl rfl ?_
        have eo5 : (i : Int) = ((k : Nat) : Int) := by omega
        rw [eo5]
        refine v_open (n := k) hg.1 W4 Z4_0 (zgd_c hg) hl (by omega) (fun τ5 f5 => ?_)
        have F5 := zfr_2 F4 f5 (by decide) (by decide)
        have Z5_0 := zis_fr Z4_0 f5 (by decide) (by decide)
        have W5 := zrl_fr W4 f5 (by decide)
        have hm15 := zmay_15 (law := law) (least := least) (l := l.take k) (C := C) (by omega)
        refine r_call (as := [vI ((zmay C law least (l.take (k))))]) (r := []) k_41_64 rfl rfl rfl ?_
        refine j_bits hm15 ?_
        have hpb := zpc_b hm15
        refine r_const k_41_67 ?_
        refine r_ic_le k_41_68 (fun h68 => ?_) (fun h68 => ?_)
        · skip
          refine r_const k_41_75 ?_
          refine r_iret k_41_76 ?_
          have ht := zfau_t (law := law) (least := least) (l := l) (n := k + 1) (by omega)
          exact zKe (q2 k hik (by omega) _ F5) ((if_neg (fun q => q (ht.mpr (fun q => by omega)))).trans ((if_neg (by omega)).trans (if_neg (by omega))))
        · skip
          refine r_const k_41_71 ?_
          refine r_goto k_41_72 ?_
          refine r_iret k_41_76 ?_
          have ht := zfau_t (law := law) (least := least) (l := l) (n := k + 1) (by omega)
          exact zKe (q2 k hik (by omega) _ F5) ((if_neg (fun q => q (ht.mpr (fun q => by omega)))).trans ((if_neg (by omega)).trans (if_pos (by omega))))
      · skip
        refine r_const k_41_57 ?_
        refine r_iret k_41_58 ?_
        have ht := zfau_t (law := law) (least := least) (l := l) (n := k + 1) (by omega)
        exact zKe (q2 k hik (by omega) _ F4) ((if_neg (fun q => q (ht.mpr (fun q => by omega)))).trans (if_pos (by omega)))
    · skip
      refine r_iload k_41_38 rfl ?_
      refine r_iload k_41_39 rfl ?_
      refine r_const k_41_40 ?_
      refine r_bin (v := i + 1) k_41_41 (zb_add ⟨by omega, by omega⟩) ?_
      refine r_ic_gt k_41_42 (fun h42 => ?_) (fun h42 => ?_)
      · skip
        refine r_aload k_41_47 rfl ?_
        refine r_iload k_41_48 rfl ?_
        refine r_const k_41_49 ?_
        refine r_bin (v := i + 1) k_41_50 (zb_add ⟨by omega, by omega⟩) ?_
        refine r_call (as := [vR (0), vI (i + 1)]) (r := []) k_41_51 rfl rfl rfl ?_
        have eo6 : (i + 1 : Int) = ((k + 1 : Nat) : Int) := by omega
        rw [eo6]
        refine v_open (n := k + 1) hg.1 hx.1 hx.2.1 (zgd_c hg) hl (by omega) (fun τ6 f6 => ?_)
        have F6 := zfr_2 F0 f6 (by decide) (by decide)
        have Z6_0 := zis_fr hx.2.1 f6 (by decide) (by decide)
        have W6 := zrl_fr hx.1 f6 (by decide)
        refine r_if_ne k_41_54 (fun h54 => ?_) (fun h54 => ?_)
        · skip
          refine r_aload k_41_59 rfl ?_
          refine r_iload k_41_60 rfl ?_
          refine r_call (as := [vR (0), vI (i)]) (r := []) k_41_61 rfl rfl rfl ?_
          have eo7 : (i : Int) = ((k : Nat) : Int) := by omega
          rw [eo7]
          refine v_open (n := k) hg.1 W6 Z6_0 (zgd_c hg) hl (by omega) (fun τ7 f7 => ?_)
          have F7 := zfr_2 F6 f7 (by decide) (by decide)
          have Z7_0 := zis_fr Z6_0 f7 (by decide) (by decide)
          have W7 := zrl_fr W6 f7 (by decide)
          have hm15 := zmay_15 (law := law) (least := least) (l := l.take k) (C := C) (by omega)
          refine r_call (as := [vI ((zmay C law least (l.take (k))))]) (r := []) k_41_64 rfl rfl rfl ?_
          refine j_bits hm15 ?_
          have hpb := zpc_b hm15
          refine r_const k_41_67 ?_
          refine r_ic_le k_41_68 (fun h68 => ?_) (fun h68 => ?_)
          · skip
            refine r_const k_41_75 ?_
            refine r_iret k_41_76 ?_
            have ht := zfau_t (law := law) (least := least) (l := l) (n := k + 1) (by omega)
            exact zKe (q2 k hik (by omega) _ F7) ((if_neg (fun q => q (ht.mpr (fun q => by omega)))).trans ((if_neg (by omega)).trans (if_neg (by omega))))
          · skip
            refine r_const k_41_71 ?_
            refine r_goto k_41_72 ?_
            refine r_iret k_41_76 ?_
            have ht := zfau_t (law := law) (least := least) (l := l) (n := k + 1) (by omega)
            exact zKe (q2 k hik (by omega) _ F7) ((if_neg (fun q => q (ht.mpr (fun q => by omega)))).trans ((if_neg (by omega)).trans (if_pos (by omega))))
        · skip
          refine r_const k_41_57 ?_
          refine r_iret k_41_58 ?_
          have ht := zfau_t (law := law) (least := least) (l := l) (n := k + 1) (by omega)
          exact zKe (q2 k hik (by omega) _ F6) ((if_neg (fun q => q (ht.mpr (fun q => by omega)))).trans (if_pos (by omega)))
      · skip
        refine r_const k_41_45 ?_
        refine r_iret k_41_46 ?_
        have ht := zfau_t (law := law) (least := least) (l := l) (n := k + 1) (by omega)
        exact zKe (q2 k hik (by omega) _ F0) (if_pos (fun q => ht.mp q ⟨by omega, by omega⟩))
  · skip
    rw [hx.2.1.1] at g8
    refine r_if_ne k_41_11 (fun hz => absurd hz (by decide)) (fun _ => ?_)
    refine r_const k_41_14 ?_
    refine r_iret k_41_15 ?_
    exact q1 (by omega)
theorem y_kind {d : Nat} {σ : zM} {K : zM → Option zV → Prop} {C : Nat} {law least draw : Int} {l : List Int} {p : Nat → Int} (hg : zgd C law least draw l p) (hy : zYn (σ.2 12) C law least draw l p) {i : Int} (q1 : ¬ (0 ≤ i ∧ i < l.length) → K σ (some (vI (-1)))) (q2 : ∀ k : Nat, i = k → k < l.length → ∀ τ, zfr [] [18, 19] σ τ → K τ (some (vI (zkn C law least l k)))) : zC (d + 3 + 1) 99 [vR (27), vI (i)] σ K := by
  have hl := hg.2.2.1
  have hb := hg.1
  have hC := hg.1.1
  have hC4 := hg.1.2.1
  refine zC_in rfl ?_
  show zG (d + 3) 99 K 0 zfx (0, [vR (27), vI (i), vU, vU, vU], [], σ)
  refine r_aload k_99_0 rfl ?_
  refine r_iload k_99_1 rfl ?_
  refine r_call (as := [vR (27), vI (i)]) (r := []) k_99_2 rfl rfl rfl ?_
  refine y_isPale hg hy (fun g2 e2 => ?_) (fun g2 => ?_)
  · skip
    obtain ⟨k, hik⟩ : ∃ k : Nat, i = k := ⟨i.toNat, by omega⟩
    have hlt : (l.take (k + 1)).length = k + 1 := by rw [List.length_take]; omega
    have hlt0 : (l.take k).length = k := by rw [List.length_take]; omega
    refine r_if_ne k_99_5 (fun _ => ?_) (fun hz => absurd hz (by decide))
    refine r_aload k_99_10 rfl ?_
    refine r_call (as := [vR (27)]) (r := []) k_99_11 rfl rfl rfl ?_
    have hY8a : zYn ((σ).2 12) C law least draw l p := by rw [(zfr_rf (S := []) (A := [])).2 12 (by decide)]; exact hy
    refine v_lay (N := l.length) hY8a.2.2.2.2.1 hl (fun τ8 f8 r8 => ?_)
    have F8 : zfr [] [18, 19] σ τ8 := zfr_tr (zfr_rf (S := []) (A := [])) f8 (by decide) (by decide)
    have hY8 : zYn (τ8.2 12) C law least draw l p := by rw [F8.2 12 (by decide)]; exact hy
    have R8 : zrs τ8 l := zYrs hY8a r8
    refine r_istore (L' := [vR (27), vI (i), vI ((l.length : Int)), vU, vU]) k_99_14 rfl ?_
    refine r_aload k_99_15 rfl ?_
    refine r_iload k_99_16 rfl ?_
    refine r_const k_99_17 ?_
    refine r_bin (v := i + 1) k_99_18 (zb_add ⟨by omega, by omega⟩) ?_
    refine r_call (as := [vR (27), vI (i + 1)]) (r := []) k_99_19 rfl rfl rfl ?_
    refine t_faultsl (l := l.take (k + 1)) ⟨hg.1.2.2.1, hg.1.2.2.2.1⟩ hg.1.2.2.2.2 hY8.2.1 hY8.2.2.1 (zrs_t R8 _) (zcol_t (zgd_c hg) _) (by rw [hlt]; omega) (by rw [hlt]; omega) (fun τ9 f9 => ?_)
    have F9 : zfr [] [18, 19] σ τ9 := zfr_tr F8 f9 (by decide) (by decide)
    have hY9 : zYn (τ9.2 12) C law least draw l p := by rw [F9.2 12 (by decide)]; exact hy
    have R9 : zrs τ9 l := zrs_fr R8 f9 (by decide)
    refine r_if_le k_99_22 (fun h22 => ?_) (fun h22 => ?_)
    · skip
      refine r_aload k_99_27 rfl ?_
      refine r_iload k_99_28 rfl ?_
      refine r_const k_99_29 ?_
      refine r_bin (v := i + 1) k_99_30 (zb_add ⟨by omega, by omega⟩) ?_
      refine r_call (as := [vR (27), vI (i + 1)]) (r := []) k_99_31 rfl rfl rfl ?_
      refine t_maye (C := C) (l := l.take (k + 1)) ⟨hg.1.2.2.1, hg.1.2.2.2.1⟩ hg.1.2.2.2.2 (by omega) hY9.1 hY9.2.1 hY9.2.2.1 (zrs_t R9 _) (zcol_t (zgd_c hg) _) (by rw [hlt]; omega) (by rw [hlt]; omega) (fun τ10 f10 _ => ?_)
      have F10 : zfr [] [18, 19] σ τ10 := zfr_tr F9 f10 (by decide) (by decide)
      have em : zmay C law least (l.take (k + 1)) = zset (zok law least (l.take (k + 1))) C := if_pos (by omega)
      refine r_istore (L' := [vR (27), vI (i), vI ((l.length : Int)), vI ((zset (zok law least (l.take (k + 1))) C)), vU]) k_99_34 rfl ?_
      refine r_aload k_99_35 rfl ?_
      refine r_call (as := [vR (27)]) (r := []) k_99_36 rfl rfl rfl ?_
      have hY11a : zYn ((τ10).2 12) C law least draw l p := by rw [F10.2 12 (by decide)]; exact hy
      refine v_lay (N := l.length) hY11a.2.2.2.2.1 hl (fun τ11 f11 r11 => ?_)
      have F11 : zfr [] [18, 19] σ τ11 := zfr_tr F10 f11 (by decide) (by decide)
      have hY11 : zYn (τ11.2 12) C law least draw l p := by rw [F11.2 12 (by decide)]; exact hy
      have R11 : zrs τ11 l := zYrs hY11a r11
      refine r_pop k_99_39 ?_
      refine r_aload k_99_40 rfl ?_
      refine r_iload k_99_41 rfl ?_
      refine r_call (as := [vR (27), vI (i)]) (r := []) k_99_42 rfl rfl rfl ?_
      refine t_maye (C := C) (l := l.take k) ⟨hg.1.2.2.1, hg.1.2.2.2.1⟩ hg.1.2.2.2.2 (by omega) hY11.1 hY11.2.1 hY11.2.2.1 (zrs_t R11 _) (zcol_t (zgd_c hg) _) (by rw [hlt0]; omega) (by rw [hlt0]; omega) (fun τ12 f12 _ => ?_)
      have F12 : zfr [] [18, 19] σ τ12 := zfr_tr F11 f12 (by decide) (by decide)
      have hf0 : zfau law least (l.take k) = 0 := (zfau_t (by omega)).mpr (fun q => (zfau_t (law := law) (least := least) (l := l) (n := k + 1) (by omega)).mp (by omega) ⟨q.1, by omega⟩)
      have em0 : zmay C law least (l.take k) = zset (zok law least (l.take k)) C := if_pos hf0
      have hm15 := zset_15 (P := zok law least (l.take k)) C (by omega)
      refine r_istore (L' := [vR (27), vI (i), vI ((l.length : Int)), vI ((zset (zok law least (l.take (k + 1))) C)), vI ((zset (zok law least (l.take k)) C))]) k_99_45 rfl ?_
      refine r_iload k_99_47 rfl ?_
      refine r_if_ne k_99_48 (fun h48 => ?_) (fun h48 => ?_)
      · skip
        refine r_iload k_99_55 rfl ?_
        refine r_call (as := [vI ((zset (zok law least (l.take k)) C))]) (r := []) k_99_57 rfl rfl rfl ?_
        refine y_bits hm15 ?_
        have hpb := zpc_b hm15
        refine r_const k_99_60 ?_
        refine r_ic_le k_99_61 (fun h61 => ?_) (fun h61 => ?_)
        · skip
          refine r_const k_99_68 ?_
          refine r_iret k_99_69 ?_
          exact zKe (q2 k hik (by omega) _ F12) ((if_neg (by omega)).trans ((if_neg (by rw [em]; omega)).trans (if_neg (by rw [em0]; omega))))
        · skip
          refine r_const k_99_64 ?_
          refine r_goto k_99_65 ?_
          refine r_iret k_99_69 ?_
          exact zKe (q2 k hik (by omega) _ F12) ((if_neg (by omega)).trans ((if_neg (by rw [em]; omega)).trans (if_pos (by rw [em0]; omega))))
      · skip
        refine r_const k_99_51 ?_
        refine r_goto k_99_52 ?_
        refine r_iret k_99_69 ?_
        exact zKe (q2 k hik (by omega) _ F12) ((if_neg (by omega)).trans (if_pos (by rw [em]; omega)))
    · skip
      refine r_const k_99_25 ?_
      refine r_iret k_99_26 ?_
      exact zKe (q2 k hik (by omega) _ F9) (if_pos (by omega))
  · skip
    refine r_if_ne k_99_5 (fun hz => absurd hz (by decide)) (fun _ => ?_)
    refine r_const k_99_8 ?_
    refine r_iret k_99_9 ?_
    exact q1 (by omega)
theorem p_kind {d : Nat} {σ : zM} (h : zInv σ) {i : Int} : zC (d + 41) 41 [vR 0, vI i] σ (fun σ1 r1 => zC (d + 5) 99 [vR 27, vI i] σ1 (zpq σ1 r1)) := by
  obtain ⟨C, law, least, draw, l, p, hg, hx, hy⟩ := h.1
  refine x_kind (d := d + 35) hg hx (fun q => y_kind (d := d + 1) hg hy (fun _ => ⟨⟨_, rfl, rfl⟩, h⟩) (fun k e1 e2 => absurd ⟨by omega, by omega⟩ q)) (fun k e1 e2 τ f => ?_)
  have hy2 : zYn (τ.2 12) C law least draw l p := by rw [f.2 12 (by decide)]; exact hy
  exact y_kind (d := d + 1) hg hy2 (fun q => absurd ⟨by omega, by omega⟩ q) (fun k2 e3 e4 υ f2 => ⟨⟨_, rfl, by rw [show k2 = k by omega]⟩, zInv_fr (zInv_fr h f (by decide) (by decide)) f2 (by decide) (by decide)⟩)
