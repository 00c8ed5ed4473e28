/-! type: the two alike -/
theorem zand31 (v : Int) : zbin 3 v 2147483647 = v % 2147483648 := by
  have h : (Int32.ofInt v &&& Int32.ofInt 2147483647).toBitVec.toNat = (v % 4294967296).toNat % 2147483648 := by
    rw [Int32.toBitVec_and, BitVec.toNat_and, Int32.toBitVec_ofInt, Int32.toBitVec_ofInt, BitVec.toNat_ofInt]
    rw [show (BitVec.ofInt 32 2147483647).toNat = 2 ^ 31 - 1 by decide, Nat.and_two_pow_sub_one_eq_mod]
    rfl
  show (Int32.ofInt v &&& Int32.ofInt 2147483647).toBitVec.toInt = _
  rw [BitVec.toInt_eq_toNat_of_lt (by rw [h]; omega), h]
  omega
theorem zand8 (v : Int) : zbin 3 v 255 = v % 256 := by
  have h : (Int32.ofInt v &&& Int32.ofInt 255).toBitVec.toNat = (v % 4294967296).toNat % 256 := by
    rw [Int32.toBitVec_and, BitVec.toNat_and, Int32.toBitVec_ofInt, Int32.toBitVec_ofInt, BitVec.toNat_ofInt]
    rw [show (BitVec.ofInt 32 255).toNat = 2 ^ 8 - 1 by decide, Nat.and_two_pow_sub_one_eq_mod]
    rfl
  show (Int32.ofInt v &&& Int32.ofInt 255).toBitVec.toInt = _
  rw [BitVec.toInt_eq_toNat_of_lt (by rw [h]; omega), h]
  omega
theorem zland31 (v : Int) : zlbin 2 v 2147483647 = v % 2147483648 := by
  have h : (Int64.ofInt v &&& Int64.ofInt 2147483647).toBitVec.toNat = (v % 18446744073709551616).toNat % 2147483648 := by
    rw [Int64.toBitVec_and, BitVec.toNat_and, Int64.toBitVec_ofInt, Int64.toBitVec_ofInt, BitVec.toNat_ofInt]
    rw [show (BitVec.ofInt 64 2147483647).toNat = 2 ^ 31 - 1 by decide, Nat.and_two_pow_sub_one_eq_mod]
    rfl
  show (Int64.ofInt v &&& Int64.ofInt 2147483647).toBitVec.toInt = _
  rw [BitVec.toInt_eq_toNat_of_lt (by rw [h]; omega), h]
  omega
theorem zland8 (v : Int) : zlbin 2 v 255 = v % 256 := by
  have h : (Int64.ofInt v &&& Int64.ofInt 255).toBitVec.toNat = (v % 18446744073709551616).toNat % 256 := by
    rw [Int64.toBitVec_and, BitVec.toNat_and, Int64.toBitVec_ofInt, Int64.toBitVec_ofInt, BitVec.toNat_ofInt]
    rw [show (BitVec.ofInt 64 255).toNat = 2 ^ 8 - 1 by decide, Nat.and_two_pow_sub_one_eq_mod]
    rfl
  show (Int64.ofInt v &&& Int64.ofInt 255).toBitVec.toInt = _
  rw [BitVec.toInt_eq_toNat_of_lt (by rw [h]; omega), h]
  omega
/-- the k-th byte of w -/
def zby (w : Int) (k : Nat) : Int := zlsh 1 w (8 * (k : Int)) % 256
theorem zby_b (w : Int) (k : Nat) : 0 ≤ zby w k ∧ zby w k < 256 := by unfold zby; omega
theorem zby_x (w : Int) (k : Nat) : zbin 3 (Int64.ofInt (zlsh 1 w (8 * (k : Int)))).toInt32.toInt 255 = zby w k := by
  rw [zand8, Int64.toInt_toInt32, show (Int64.ofInt (zlsh 1 w (8 * (k : Int)))).toInt = zlsh 1 w (8 * (k : Int)) by
    show (Int64.ofInt (Int64.ofInt w >>> ((Int32.ofInt (8 * (k : Int))).toInt64 &&& 63)).toInt).toInt = _
    rw [Int64.ofInt_toInt]; rfl]
  unfold zby
  rw [Int.bmod_def]
  split <;> omega
theorem zsm_i {v : Int} (h : 0 ≤ v ∧ v < 256) : (Int64.ofInt v).toInt32.toInt = v := by
  rw [Int64.toInt_toInt32, Int64.toInt_ofInt_of_le (by omega) (by omega), Int.bmod_def]
  split <;> omega
theorem s_byteOf {d : Nat} {σ : zM} {K : zM → Option zV → Prop} {w x : Int} {k : Nat} (hx : x = k) (hk : k < 8) (q1 : K σ (some (vI (zby w k)))) : zC (d + 1) 34 [vL (w), vI (x)] σ K := by
  refine zC_in rfl ?_
  show zG (d) 34 K 0 zfx (0, [vL (w), vU, vI (x)], [], σ)
  refine r_lload k_34_0 rfl ?_
  refine r_const k_34_1 ?_
  refine r_iload k_34_3 rfl ?_
  refine r_bin (v := (8 * (k : Int))) k_34_4 (by rw [zb_mul ⟨by omega, by omega⟩]; omega) ?_
  refine r_lsh (v := zlsh 1 w ((8 * (k : Int)))) k_34_5 rfl ?_
  refine r_cnv (w := vI ((Int64.ofInt (zlsh 1 w ((8 * (k : Int))))).toInt32.toInt)) k_34_6 rfl ?_
  refine r_const k_34_7 ?_
  refine r_bin (v := (zby w k)) k_34_10 (zby_x w k) ?_
  refine r_iret k_34_11 ?_
  exact q1
theorem x_type {d : Nat} {σ : zM} {K : zM → Option zV → Prop} {w n : Int} {T : Nat} (hT0 : σ.1 13 = (T : Int)) (hT1 : T ≤ 100) (q1 : ¬ (1 ≤ n ∧ n ≤ 8) → K σ (some (vI (-1)))) (q2 : ∀ N : Nat, n = N → N ≤ 8 → ∀ j, j < N → ¬ (32 ≤ zby w j ∧ zby w j ≤ 126) → K σ (some (vI (-1)))) (q3 : ∀ N : Nat, n = N → 1 ≤ N → N ≤ 8 → (∀ j, j < N → 32 ≤ zby w j ∧ zby w j ≤ 126) → 100 < (T : Int) + n → K σ (some (vI (-3)))) (q4 : ∀ N : Nat, n = N → 1 ≤ N → N ≤ 8 → (∀ j, j < N → 32 ≤ zby w j ∧ zby w j ≤ 126) → (T : Int) + n ≤ 100 → ∀ τ, zfr [13] [6] σ τ → τ.1 13 = (T : Int) + n → (∀ j, j < T → τ.2 6 j = σ.2 6 j) → (∀ j, j < N → τ.2 6 (T + j) = zby w (N - 1 - j)) → K τ (some (vI ((T : Int) + n)))) : zC (d + 1 + 1) 33 [vR (0), vL (w), vI (n)] σ K := by
  refine zC_in rfl ?_
  have lp2 : ∀ (m : Nat) (N j : Nat) (τ : zM), N - j = m → j ≤ N → n = N → 1 ≤ N → N ≤ 8 → (∀ j, j < N → 32 ≤ zby w j ∧ zby w j ≤ 126) → T + N ≤ 100 → zfr [13] [6] σ τ → τ.1 13 = (T : Int) + (j : Int) → (∀ k, k < T → τ.2 6 k = σ.2 6 k) → (∀ k, k < j → τ.2 6 (T + k) = zby w (N - 1 - k)) → zG (d + 1) 33 K 0 zfx (74, [vR (0), vL (w), vU, vI (n), vI ((n - 1 - (j : Int))), vU], [], τ) := by
    intro m
    induction m using Nat.strongRecOn with
    | _ m ih =>
    intro N j τ hm g1 hN n1 n8 ha hT hf hs ho hc
    refine r_iload k_33_74 rfl ?_
    refine r_if_lt k_33_76 (fun h76 => ?_) (fun h76 => ?_)
    · skip
      refine r_aload k_33_98 rfl ?_
      refine r_getR (q := 11) k_33_99 ⟨rfl, rfl⟩ ?_
      refine r_getS (v := ((T : Int) + (j : Int))) k_33_102 ⟨rfl, rfl⟩ hs ?_
      refine r_iret k_33_105 ?_
      have ej : j = N := by omega
      subst ej
      have e2 : (T : Int) + (j : Int) = T + n := by omega
      rw [e2] at hs ⊢
      exact q4 j hN n1 n8 ha (by omega) _ hf hs ho hc
    · skip
      refine r_aload k_33_79 rfl ?_
      refine r_getR (q := 11) k_33_80 ⟨rfl, rfl⟩ ?_
      refine r_lload k_33_83 rfl ?_
      refine r_iload k_33_84 rfl ?_
      refine r_call (as := [vL (w), vI ((n - 1 - (j : Int)))]) (r := [vR (11)]) k_33_86 rfl rfl rfl ?_
      refine s_byteOf (k := (N - 1 - j)) (by omega) (by omega) ?_
      refine r_call (as := [vR (11), vI ((zby w (N - 1 - j)))]) (r := []) k_33_89 rfl rfl rfl ?_
      refine s_tadd (fun _ _ => ?_) (fun q => by omega)
      rw [hs, show ((T : Int) + (j : Int)).toNat = T + j by omega]
      obtain ⟨τ9, ht9⟩ : ∃ τ9, τ9 = zsetS (zsetA τ 6 (zup (τ.2 6) (T + j) (zby w (N - 1 - j)))) 13 ((T : Int) + (j : Int) + 1) := ⟨_, rfl⟩
      rw [← ht9]
      have F9 : zfr [13] [6] σ τ9 := by rw [ht9]; exact zfr_S (zfr_A hf (by decide)) (by decide)
      have e9 : τ9.1 13 = (T : Int) + ((j + 1 : Nat) : Int) := by rw [ht9, zS_1]; omega
      have o9 : ∀ q, q ≠ T + j → τ9.2 6 q = τ.2 6 q := fun q hq => by rw [ht9, zS_2, zA_2, zup_n hq]
      have c9 : τ9.2 6 (T + j) = zby w (N - 1 - j) := by rw [ht9, zS_2, zA_2, zup_1]
      refine r_iinc (v := ((n - 1 - (j : Int))) - 1) (L' := [vR (0), vL (w), vU, vI (n), vI (((n - 1 - (j : Int))) - 1), vU]) k_33_92 rfl (by rw [zb_add ⟨by omega, by omega⟩]; omega) rfl ?_
      refine r_goto k_33_95 ?_
      have e1 : ((n - 1 - (j : Int))) - 1 = n - 1 - ((j + 1 : Nat) : Int) := by omega
      rw [e1]
      refine ih _ (by omega) N (j + 1) _ rfl (by omega) hN n1 n8 ha hT F9 e9 (fun k hk => ?_) (fun k hk => ?_)
      · rw [o9 k (by omega)]; exact ho k hk
      · by_cases e : k = j
        · subst e; exact c9
        · rw [o9 _ (by omega)]; exact hc k (by omega)
  have lp1 : ∀ (m : Nat) (N k : Nat), N - k = m → k ≤ N → n = N → 1 ≤ N → N ≤ 8 → (∀ j, j < k → 32 ≤ zby w j ∧ zby w j ≤ 126) → zG (d + 1) 33 K 0 zfx (16, [vR (0), vL (w), vU, vI (n), vI ((k : Int)), vU], [], σ) := by
    intro m
    induction m using Nat.strongRecOn with
    | _ m ih =>
    intro N k hm g1 hN n1 n8 ha
    refine r_iload k_33_16 rfl ?_
    refine r_iload k_33_18 rfl ?_
    refine r_ic_ge k_33_19 (fun h19 => ?_) (fun h19 => ?_)
    · skip
      refine r_aload k_33_52 rfl ?_
      refine r_getR (q := 11) k_33_53 ⟨rfl, rfl⟩ ?_
      refine r_getS (v := (T : Int)) k_33_56 ⟨rfl, rfl⟩ hT0 ?_
      refine r_const k_33_59 ?_
      refine r_iload k_33_61 rfl ?_
      refine r_bin (v := 100 - n) k_33_62 (zb_sub ⟨by omega, by omega⟩) ?_
      refine r_ic_le k_33_63 (fun h63 => ?_) (fun h63 => ?_)
      · skip
        refine r_iload k_33_69 rfl ?_
        refine r_const k_33_70 ?_
        refine r_bin (v := n - 1) k_33_71 (zb_sub ⟨by omega, by omega⟩) ?_
        refine r_istore (L' := [vR (0), vL (w), vU, vI (n), vI (n - 1), vU]) k_33_72 rfl ?_
        have e0 : n - 1 = n - 1 - ((0 : Nat) : Int) := by omega
        rw [e0]
        exact lp2 _ N 0 σ rfl (by omega) hN (by omega) (by omega) (fun j hj => ha j (by omega)) (by omega) zfr_rf (by omega) (fun _ _ => rfl) (fun k hk => absurd hk (Nat.not_lt_zero _))
      · skip
        refine r_const k_33_66 ?_
        refine r_iret k_33_68 ?_
        exact q3 N hN n1 n8 (fun j hj => ha j (by omega)) (by omega)
    · skip
      refine r_lload k_33_22 rfl ?_
      refine r_iload k_33_23 rfl ?_
      refine r_call (as := [vL (w), vI ((k : Int))]) (r := []) k_33_25 rfl rfl rfl ?_
      refine s_byteOf (k := k) (by omega) (by omega) ?_
      refine r_istore (L' := [vR (0), vL (w), vU, vI (n), vI ((k : Int)), vI ((zby w k))]) k_33_28 rfl ?_
      refine r_iload k_33_30 rfl ?_
      refine r_const k_33_32 ?_
      refine r_ic_lt k_33_34 (fun h34 => ?_) (fun h34 => ?_)
      · skip
        refine r_const k_33_44 ?_
        refine r_iret k_33_45 ?_
        exact q2 N hN n8 k (by omega) (by omega)
      · skip
        refine r_iload k_33_37 rfl ?_
        refine r_const k_33_39 ?_
        refine r_ic_le k_33_41 (fun h41 => ?_) (fun h41 => ?_)
        · skip
          refine r_iinc (v := (k : Int) + 1) (L' := [vR (0), vL (w), vU, vI (n), vI ((k : Int) + 1), vI ((zby w k))]) k_33_46 rfl (zb_add ⟨by omega, by omega⟩) rfl ?_
          refine r_goto k_33_49 ?_
          refine r_cut (L' := [vR (0), vL (w), vU, vI (n), vI ((k : Int) + 1), vU]) 5 rfl ?_
          exact ih _ (by omega) N (k + 1) rfl (by omega) hN n1 n8 (fun j hj => by
            by_cases e : j = k
            · subst e; omega
            · exact ha j (by omega))
        · skip
          refine r_const k_33_44 ?_
          refine r_iret k_33_45 ?_
          exact q2 N hN n8 k (by omega) (by omega)
  show zG (d + 1) 33 K 0 zfx (0, [vR (0), vL (w), vU, vI (n), vU, vU], [], σ)
  refine r_iload k_33_0 rfl ?_
  refine r_const k_33_1 ?_
  refine r_ic_lt k_33_2 (fun h2 => ?_) (fun h2 => ?_)
  · skip
    refine r_const k_33_11 ?_
    refine r_iret k_33_12 ?_
    exact q1 (by omega)
  · skip
    refine r_iload k_33_5 rfl ?_
    refine r_const k_33_6 ?_
    refine r_ic_le k_33_8 (fun h8 => ?_) (fun h8 => ?_)
    · skip
      refine r_const k_33_13 ?_
      refine r_istore (L' := [vR (0), vL (w), vU, vI (n), vI (0), vU]) k_33_14 rfl ?_
      obtain ⟨N, hN⟩ : ∃ N : Nat, n = N := ⟨n.toNat, by omega⟩
      exact lp1 _ N 0 rfl (by omega) hN (by omega) (by omega) (fun j hj => absurd hj (Nat.not_lt_zero _))
    · skip
      refine r_const k_33_11 ?_
      refine r_iret k_33_12 ?_
      exact q1 (by omega)
theorem y_type {d : Nat} {σ : zM} {K : zM → Option zV → Prop} {w n : Int} {T : Nat} (hT0 : σ.1 23 = (T : Int)) (hT1 : T ≤ 100) (q1 : ¬ (1 ≤ n ∧ n ≤ 8) → K σ (some (vI (-1)))) (q2 : ∀ N : Nat, n = N → N ≤ 8 → ∀ j, j < N → ¬ (32 ≤ zby w j ∧ zby w j ≤ 126) → K σ (some (vI (-1)))) (q3 : ∀ N : Nat, n = N → 1 ≤ N → N ≤ 8 → (∀ j, j < N → 32 ≤ zby w j ∧ zby w j ≤ 126) → 100 < (T : Int) + n → K σ (some (vI (-3)))) (q4 : ∀ N : Nat, n = N → 1 ≤ N → N ≤ 8 → (∀ j, j < N → 32 ≤ zby w j ∧ zby w j ≤ 126) → (T : Int) + n ≤ 100 → ∀ τ, zfr [23] [14] σ τ → τ.1 23 = (T : Int) + n → (∀ j, j < T → τ.2 14 j = σ.2 14 j) → (∀ j, j < N → τ.2 14 (T + j) = zby w (N - 1 - j)) → K τ (some (vI ((T : Int) + n)))) : zC (d + 1 + 1) 93 [vR (27), vL (w), vI (n)] σ K := by
  refine zC_in rfl ?_
  have lp2 : ∀ (m : Nat) (N j : Nat) (τ : zM), N - j = m → j ≤ N → n = N → 1 ≤ N → N ≤ 8 → (∀ j, j < N → 32 ≤ zby w j ∧ zby w j ≤ 126) → T + N ≤ 100 → zfr [23] [14] σ τ → τ.1 23 = (T : Int) + (j : Int) → (∀ k, k < T → τ.2 14 k = σ.2 14 k) → (∀ k, k < j → τ.2 14 (T + k) = zby w (N - 1 - k)) → zG (d + 1) 93 K 0 zfx (93, [vR (27), vL (w), vU, vI (n), vI (1), vI ((n - 1 - (j : Int)))], [], τ) := by
    intro m
    induction m using Nat.strongRecOn with
    | _ m ih =>
    intro N j τ hm g1 hN n1 n8 ha hT hf hs ho hc
    refine r_iload k_93_93 rfl ?_
    refine r_if_lt k_93_95 (fun h95 => ?_) (fun h95 => ?_)
    · skip
      refine r_aload k_93_135 rfl ?_
      refine r_getS (v := ((T : Int) + (j : Int))) k_93_136 ⟨rfl, rfl⟩ hs ?_
      refine r_iret k_93_139 ?_
      have ej : j = N := by omega
      subst ej
      have e2 : (T : Int) + (j : Int) = T + n := by omega
      rw [e2] at hs ⊢
      exact q4 j hN n1 n8 ha (by omega) _ hf hs ho hc
    · skip
      refine r_aload k_93_98 rfl ?_
      refine r_getR (q := 30) k_93_99 ⟨rfl, rfl⟩ ?_
      refine r_aload k_93_102 rfl ?_
      refine r_getS (v := ((T : Int) + (j : Int))) k_93_103 ⟨rfl, rfl⟩ hs ?_
      refine r_lload k_93_106 rfl ?_
      refine r_const k_93_107 ?_
      refine r_iload k_93_109 rfl ?_
      refine r_bin (v := (8 * ((N - 1 - j : Nat) : Int))) k_93_111 (by rw [zb_mul ⟨by omega, by omega⟩]; omega) ?_
      refine r_lsh (v := zlsh 1 w ((8 * ((N - 1 - j : Nat) : Int)))) k_93_112 rfl ?_
      refine r_lconst k_93_113 ?_
      refine r_lbin (v := (zby w (N - 1 - j))) k_93_116 (zland8 _) ?_
      refine r_cnv (w := vI ((zby w (N - 1 - j)))) k_93_117 (by rw [show zcnv 1 (vL (zby w (N - 1 - j))) = some (vI (Int64.ofInt (zby w (N - 1 - j))).toInt32.toInt) from rfl, zsm_i (zby_b w _)]) ?_
      refine r_iast k_93_118 ⟨rfl, rfl⟩ ⟨by omega, by omega⟩ ?_
      refine r_aload k_93_119 rfl ?_
      refine r_dup k_93_120 ?_
      refine r_getS (v := ((T : Int) + (j : Int))) k_93_121 ⟨rfl, rfl⟩ hs ?_
      refine r_const k_93_124 ?_
      refine r_bin (v := ((T : Int) + (j : Int)) + 1) k_93_125 (zb_add ⟨by omega, by omega⟩) ?_
      refine r_putS k_93_126 ⟨rfl, rfl⟩ ?_
      refine r_iinc (v := ((n - 1 - (j : Int))) - 1) (L' := [vR (27), vL (w), vU, vI (n), vI (1), vI (((n - 1 - (j : Int))) - 1)]) k_93_129 rfl (by rw [zb_add ⟨by omega, by omega⟩]; omega) rfl ?_
      refine r_goto k_93_132 ?_
      have e1 : ((n - 1 - (j : Int))) - 1 = n - 1 - ((j + 1 : Nat) : Int) := by omega
      rw [e1]
      refine ih _ (by omega) N (j + 1) _ rfl (by omega) hN n1 n8 ha hT (zfr_S (zfr_A hf (by decide)) (by decide)) (by rw [zS_1]; omega) (fun k hk => ?_) (fun k hk => ?_)
      · rw [zS_2, zA_2, zup_n (by omega)]; exact ho k hk
      · by_cases e : k = j
        · subst e; rw [zS_2, zA_2, show ((T : Int) + (k : Int)).toNat = T + k by omega, zup_1]
        · rw [zS_2, zA_2, zup_n (by omega)]; exact hc k (by omega)
  have lpb : ∀ (m : Nat) (k : Nat), (n - k).toNat = m → (k : Int) ≤ n → 1 ≤ n → n ≤ 8 → K σ (some (vI (-1))) → zG (d + 1) 93 K 0 zfx (20, [vR (27), vL (w), vU, vI (n), vI (0), vI ((k : Int))], [], σ) := by
    intro m
    induction m using Nat.strongRecOn with
    | _ m ih =>
    intro k hm g1 n1 n8 hq
    refine r_iload k_93_20 rfl ?_
    refine r_iload k_93_22 rfl ?_
    refine r_ic_ge k_93_23 (fun h23 => ?_) (fun h23 => ?_)
    · skip
      refine r_iload k_93_67 rfl ?_
      refine r_if_ne k_93_69 (fun hz => absurd hz (by decide)) (fun _ => ?_)
      refine r_const k_93_72 ?_
      refine r_iret k_93_73 ?_
      exact hq
    · skip
      refine r_iload k_93_26 rfl ?_
      refine r_if_eq k_93_28 (fun _ => ?_) (fun hz => absurd hz (by decide))
      refine r_const k_93_58 ?_
      refine r_istore (L' := [vR (27), vL (w), vU, vI (n), vI (0), vI ((k : Int))]) k_93_59 rfl ?_
      refine r_iinc (v := (k : Int) + 1) (L' := [vR (27), vL (w), vU, vI (n), vI (0), vI ((k : Int) + 1)]) k_93_61 rfl (zb_add ⟨by omega, by omega⟩) rfl ?_
      refine r_goto k_93_64 ?_
      exact ih _ (by omega) (k + 1) rfl (by omega) n1 n8 hq
  have lp1 : ∀ (m : Nat) (N k : Nat), N - k = m → k ≤ N → n = N → 1 ≤ N → N ≤ 8 → (∀ j, j < k → 32 ≤ zby w j ∧ zby w j ≤ 126) → zG (d + 1) 93 K 0 zfx (20, [vR (27), vL (w), vU, vI (n), vI (1), vI ((k : Int))], [], σ) := by
    intro m
    induction m using Nat.strongRecOn with
    | _ m ih =>
    intro N k hm g1 hN n1 n8 ha
    refine r_iload k_93_20 rfl ?_
    refine r_iload k_93_22 rfl ?_
    refine r_ic_ge k_93_23 (fun h23 => ?_) (fun h23 => ?_)
    · skip
      refine r_iload k_93_67 rfl ?_
      refine r_if_ne k_93_69 (fun _ => ?_) (fun hz => absurd hz (by decide))
      refine r_aload k_93_74 rfl ?_
      refine r_getS (v := (T : Int)) k_93_75 ⟨rfl, rfl⟩ hT0 ?_
      refine r_iload k_93_78 rfl ?_
      refine r_bin (v := (T : Int) + n) k_93_79 (zb_add ⟨by omega, by omega⟩) ?_
      refine r_const k_93_80 ?_
      refine r_ic_le k_93_82 (fun h82 => ?_) (fun h82 => ?_)
      · skip
        refine r_iload k_93_88 rfl ?_
        refine r_const k_93_89 ?_
        refine r_bin (v := n - 1) k_93_90 (zb_sub ⟨by omega, by omega⟩) ?_
        refine r_istore (L' := [vR (27), vL (w), vU, vI (n), vI (1), vI (n - 1)]) k_93_91 rfl ?_
        have e0 : n - 1 = n - 1 - ((0 : Nat) : Int) := by omega
        rw [e0]
        exact lp2 _ N 0 σ rfl (by omega) hN (by omega) (by omega) (fun j hj => ha j (by omega)) (by omega) zfr_rf (by omega) (fun _ _ => rfl) (fun k hk => absurd hk (Nat.not_lt_zero _))
      · skip
        refine r_const k_93_85 ?_
        refine r_iret k_93_87 ?_
        exact q3 N hN n1 n8 (fun j hj => ha j (by omega)) (by omega)
    · skip
      refine r_iload k_93_26 rfl ?_
      refine r_if_eq k_93_28 (fun hz => absurd hz (by decide)) (fun _ => ?_)
      refine r_lload k_93_31 rfl ?_
      refine r_const k_93_32 ?_
      refine r_iload k_93_34 rfl ?_
      refine r_bin (v := (8 * (k : Int))) k_93_36 (zb_mul ⟨by omega, by omega⟩) ?_
      refine r_lsh (v := zlsh 1 w ((8 * (k : Int)))) k_93_37 rfl ?_
      refine r_lconst k_93_38 ?_
      refine r_lbin (v := (zby w k)) k_93_41 (zland8 _) ?_
      refine r_lconst k_93_42 ?_
      refine r_lconst k_93_45 ?_
      refine r_call (as := [vL ((zby w k)), vL (32), vL (126)]) (r := []) k_93_48 rfl rfl rfl ?_
      refine t_in (fun g48 => ?_) (fun g48 => ?_)
      · skip
        refine r_if_eq k_93_51 (fun hz => absurd hz (by decide)) (fun _ => ?_)
        refine r_const k_93_54 ?_
        refine r_goto k_93_55 ?_
        refine r_istore (L' := [vR (27), vL (w), vU, vI (n), vI (1), vI ((k : Int))]) k_93_59 rfl ?_
        refine r_iinc (v := (k : Int) + 1) (L' := [vR (27), vL (w), vU, vI (n), vI (1), vI ((k : Int) + 1)]) k_93_61 rfl (zb_add ⟨by omega, by omega⟩) rfl ?_
        refine r_goto k_93_64 ?_
        exact ih _ (by omega) N (k + 1) rfl (by omega) hN n1 n8 (fun j hj => by
          by_cases e : j = k
          · subst e; omega
          · exact ha j (by omega))
      · skip
        refine r_if_eq k_93_51 (fun _ => ?_) (fun hz => absurd hz (by decide))
        refine r_const k_93_58 ?_
        refine r_istore (L' := [vR (27), vL (w), vU, vI (n), vI (0), vI ((k : Int))]) k_93_59 rfl ?_
        refine r_iinc (v := (k : Int) + 1) (L' := [vR (27), vL (w), vU, vI (n), vI (0), vI ((k : Int) + 1)]) k_93_61 rfl (zb_add ⟨by omega, by omega⟩) rfl ?_
        refine r_goto k_93_64 ?_
        exact lpb _ (k + 1) rfl (by omega) (by omega) (by omega) (q2 N hN n8 k (by omega) (by omega))
  show zG (d + 1) 93 K 0 zfx (0, [vR (27), vL (w), vU, vI (n), vU, vU], [], σ)
  refine r_iload k_93_0 rfl ?_
  refine r_cnv (w := vL (n)) k_93_1 rfl ?_
  refine r_lconst k_93_2 ?_
  refine r_lconst k_93_3 ?_
  refine r_call (as := [vL (n), vL (1), vL (8)]) (r := []) k_93_6 rfl rfl rfl ?_
  refine t_in (fun g6 => ?_) (fun g6 => ?_)
  · skip
    refine r_if_ne k_93_9 (fun _ => ?_) (fun hz => absurd hz (by decide))
    refine r_const k_93_14 ?_
    refine r_istore (L' := [vR (27), vL (w), vU, vI (n), vI (1), vU]) k_93_15 rfl ?_
    refine r_const k_93_17 ?_
    refine r_istore (L' := [vR (27), vL (w), vU, vI (n), vI (1), vI (0)]) k_93_18 rfl ?_
    obtain ⟨N, hN⟩ : ∃ N : Nat, n = N := ⟨n.toNat, by omega⟩
    exact lp1 _ N 0 rfl (by omega) hN (by omega) (by omega) (fun j hj => absurd hj (Nat.not_lt_zero _))
  · skip
    refine r_if_ne k_93_9 (fun hz => absurd hz (by decide)) (fun _ => ?_)
    refine r_const k_93_12 ?_
    refine r_iret k_93_13 ?_
    exact q1 (by omega)
theorem zIt_mk {σ τ : zM} {T N : Nat} {w : Int} (h : zIt σ) (hT : σ.1 13 = (T : Int)) (hN : T + N ≤ 100) (e1 : τ.1 13 = (T : Int) + (N : Int)) (e2 : τ.1 23 = (T : Int) + (N : Int)) (o1 : ∀ j, j < T → τ.2 6 j = σ.2 6 j) (o2 : ∀ j, j < T → τ.2 14 j = σ.2 14 j) (c1 : ∀ j, j < N → τ.2 6 (T + j) = zby w (N - 1 - j)) (c2 : ∀ j, j < N → τ.2 14 (T + j) = zby w (N - 1 - j)) (hg : (∀ j, j < N → 32 ≤ zby w j ∧ zby w j ≤ 126)) : zIt τ := by
  obtain ⟨h1, h2, h3, h4⟩ := h
  refine ⟨by omega, by omega, by omega, fun k hk => ?_⟩
  by_cases e : k < T
  · rw [o1 k e, o2 k e]; exact h4 k (by omega)
  · obtain ⟨j, rfl⟩ : ∃ j, k = T + j := ⟨k - T, by omega⟩
    rw [c1 j (by omega), c2 j (by omega)]
    exact ⟨rfl, hg _ (by omega)⟩
theorem p_type {d : Nat} {σ : zM} (h : zInv σ) {w n : Int} : zC (d + 41) 33 [vR 0, vL w, vI n] σ (fun σ1 r1 => zC (d + 5) 93 [vR 27, vL w, vI n] σ1 (zpq σ1 r1)) := by
  obtain ⟨t1, t2, t3, t4⟩ := h.2.2.1
  obtain ⟨T, hT⟩ : ∃ T : Nat, σ.1 13 = (T : Int) := ⟨(σ.1 13).toNat, by omega⟩
  have hT1 : T ≤ 100 := by omega
  have hTy : σ.1 23 = (T : Int) := by omega
  refine x_type (d := d + 39) hT hT1 (fun q => ?_) (fun N e e8 j hj g => ?_) (fun N e e1 e8 g gt => ?_) (fun N e e1 e8 g gt τ f a1 a2 a3 => ?_)
  · exact y_type (d := d + 3) hTy hT1 (fun _ => ⟨⟨_, rfl, rfl⟩, h⟩) (fun N e e8 j hj g => absurd ⟨by omega, by omega⟩ q) (fun N e e1 e8 => absurd ⟨by omega, by omega⟩ q) (fun N e e1 e8 => absurd ⟨by omega, by omega⟩ q)
  · exact y_type (d := d + 3) hTy hT1 (fun _ => ⟨⟨_, rfl, rfl⟩, h⟩) (fun _ _ _ _ _ _ => ⟨⟨_, rfl, rfl⟩, h⟩) (fun N2 e2 _ _ g2 => absurd (g2 j (by omega)) g) (fun N2 e2 _ _ g2 => absurd (g2 j (by omega)) g)
  · exact y_type (d := d + 3) hTy hT1 (fun q => absurd ⟨by omega, by omega⟩ q) (fun N2 e2 _ j hj g2 => absurd (g j (by omega)) g2) (fun _ _ _ _ _ _ => ⟨⟨_, rfl, rfl⟩, h⟩) (fun N2 e2 _ _ g2 gt2 => absurd gt2 (by omega))
  · refine y_type (d := d + 3) ((f.1 23 (by decide)).trans hTy) hT1 (fun q => absurd ⟨by omega, by omega⟩ q) (fun N2 e2 _ j hj g2 => absurd (g j (by omega)) g2) (fun N2 e2 _ _ g2 gt2 => absurd gt2 (by omega)) (fun N2 e2 _ _ _ _ υ fu b1 b2 b3 => ⟨⟨_, rfl, rfl⟩, ?_⟩)
    obtain rfl : N2 = N := by omega
    have F : zfr [13, 23] [6, 14] σ υ := zfr_tr f fu (by decide) (by decide)
    refine ⟨zIn_fr h.1 F (by decide) (by decide), zIk_fr h.2.1 F (by decide) (by decide), zIt_mk h.2.2.1 hT (by omega) ((fu.1 13 (by decide)).trans (by rw [a1, e2])) (by rw [b1, e2]) (fun j hj => by rw [fu.2 6 (by decide)]; exact a2 j hj) (fun j hj => (b2 j hj).trans (by rw [f.2 14 (by decide)])) (fun j hj => by rw [fu.2 6 (by decide)]; exact a3 j hj) b3 g, zIh_fr h.2.2.2 F (by decide) (by decide)⟩
