/-! wins: the reference -/
def zwf (g s o : Bool) : Nat := if g = false then 0 else if s = true then 1 else if o = true then 2 else 0
/-- the value of a node: colours from c on, n of them, are still to be tried -/
def zwn (C : Nat) (law least : Int) (m : Nat) (l : List Int) : Nat → Nat → Bool → Bool → Bool → Nat
  | 0, _, g, s, o => zwf g s o
  | n + 1, c, g, s, o => if zok law least l c = true then zwn C law least m l n (c + 1) true (s || (decide (m ≠ 0) && decide (zval C law least (m - 1) (l ++ [(c : Int)]) = 0))) (o || (decide (m = 0) || decide (zval C law least (m - 1) (l ++ [(c : Int)]) = 2))) else zwn C law least m l n (c + 1) g s o
theorem zwn_val {C : Nat} {law least : Int} {m : Nat} {l : List Int} : ∀ (n c : Nat) (g s o : Bool), zwn C law least m l n c g s o = zwf (g || zex (zok law least l) n c) (s || zex (fun c => zok law least l c && (decide (m ≠ 0) && decide (zval C law least (m - 1) (l ++ [(c : Int)]) = 0))) n c) (o || zex (fun c => zok law least l c && (decide (m = 0) || decide (zval C law least (m - 1) (l ++ [(c : Int)]) = 2))) n c)
  | 0, c, g, s, o => by
    unfold zwn zex
    rw [Bool.or_false, Bool.or_false, Bool.or_false]
  | n + 1, c, g, s, o => by
    by_cases h : zok law least l c = true
    · have ih := zwn_val (C := C) (law := law) (least := least) (m := m) (l := l) n (c + 1) true (s || (decide (m ≠ 0) && decide (zval C law least (m - 1) (l ++ [(c : Int)]) = 0))) (o || (decide (m = 0) || decide (zval C law least (m - 1) (l ++ [(c : Int)]) = 2)))
      rw [zwn, if_pos h, ih]
      have e1 : ∀ P : Nat → Bool, zex P (n + 1) c = (P c || zex P n (c + 1)) := fun P => by cases hp : P c; rw [zex_f hp]; rfl; rw [zex_t hp]; rfl
      rw [e1, e1, e1, h]
      simp only [Bool.true_or, Bool.or_true, Bool.true_and, Bool.or_assoc]
    · have h : zok law least l c = false := by cases hz : zok law least l c; rfl; exact absurd hz h
      have ih := zwn_val (C := C) (law := law) (least := least) (m := m) (l := l) n (c + 1) g s o
      rw [zwn, if_neg (by rw [h]; decide), ih]
      have e1 : ∀ P : Nat → Bool, zex P (n + 1) c = (P c || zex P n (c + 1)) := fun P => by cases hp : P c; rw [zex_f hp]; rfl; rw [zex_t hp]; rfl
      rw [e1, e1, e1, h]
      simp only [Bool.false_or, Bool.false_and]
theorem zwn_0 {C : Nat} {law least : Int} : ∀ (m : Nat) (l : List Int), zwn C law least m l C 0 false false false = zval C law least m l
  | 0, l => by
    rw [zwn_val, zval]
    have e1 : zex (fun c => zok law least l c && (decide ((0 : Nat) ≠ 0) && decide (zval C law least (0 - 1) (l ++ [(c : Int)]) = 0))) C 0 = false := by
      cases h : zex (fun c => zok law least l c && (decide ((0 : Nat) ≠ 0) && decide (zval C law least (0 - 1) (l ++ [(c : Int)]) = 0))) C 0 with
      | false => rfl
      | true =>
        obtain ⟨k, _, _, h3⟩ := (zex_iff C 0).mp h
        simp at h3
    have e2 : zex (fun c => zok law least l c && (decide ((0 : Nat) = 0) || decide (zval C law least (0 - 1) (l ++ [(c : Int)]) = 2))) C 0 = zex (zok law least l) C 0 := zex_congr (fun k => by simp) C 0
    rw [e1, e2]
    cases zex (zok law least l) C 0 <;> rfl
  | m + 1, l => by
    rw [zwn_val, zval]
    have e1 : zex (fun c => zok law least l c && (decide (m + 1 ≠ 0) && decide (zval C law least (m + 1 - 1) (l ++ [(c : Int)]) = 0))) C 0 = zex (fun c => zok law least l c && decide (zval C law least m (l ++ [(c : Int)]) = 0)) C 0 := zex_congr (fun k => by simp) C 0
    have e2 : zex (fun c => zok law least l c && (decide (m + 1 = 0) || decide (zval C law least (m + 1 - 1) (l ++ [(c : Int)]) = 2))) C 0 = zex (fun c => zok law least l c && decide (zval C law least m (l ++ [(c : Int)]) = 2)) C 0 := zex_congr (fun k => by simp) C 0
    rw [e1, e2]
    have i1 : zex (fun c => zok law least l c && decide (zval C law least m (l ++ [(c : Int)]) = 0)) C 0 = true → zex (zok law least l) C 0 = true := fun h => by
      obtain ⟨k, h1, h2, h3⟩ := (zex_iff C 0).mp h
      exact (zex_iff C 0).mpr ⟨k, h1, h2, (Bool.and_eq_true_iff.mp h3).1⟩
    have i2 : zex (fun c => zok law least l c && decide (zval C law least m (l ++ [(c : Int)]) = 2)) C 0 = true → zex (zok law least l) C 0 = true := fun h => by
      obtain ⟨k, h1, h2, h3⟩ := (zex_iff C 0).mp h
      exact (zex_iff C 0).mpr ⟨k, h1, h2, (Bool.and_eq_true_iff.mp h3).1⟩
    unfold zwf
    generalize zex (zok law least l) C 0 = a at *
    generalize zex (fun c => zok law least l c && decide (zval C law least m (l ++ [(c : Int)]) = 0)) C 0 = b at *
    generalize zex (fun c => zok law least l c && decide (zval C law least m (l ++ [(c : Int)]) = 2)) C 0 = e at *
    cases a <;> cases b <;> cases e <;> simp_all
theorem zor1 {s b : Bool} (h : ¬ zb1 s = 0 ∨ b = true) : 1 = zb1 (s || b) := by
  cases s <;> cases b <;> first | rfl | (rcases h with h | h; exact absurd rfl h; cases h)
theorem zor0 {s b : Bool} (h : zb1 s = 0) (hb : b = false) : 0 = zb1 (s || b) := by
  subst hb
  cases s
  · rfl
  · cases h
theorem t_comes {d : Nat} {σ : zM} {K : zM → Option zV → Prop} {Bn D : Nat} (hB : Bn + D < 80) (hD : D < 9) (q1 : ∀ τ, zfr [] [18, 22, 23, 24] σ τ → τ.2 18 = zup (σ.2 18) (Bn + D) (-1) → τ.2 22 = zup (σ.2 22) D 0 → τ.2 23 = zup (σ.2 23) D 0 → τ.2 24 = zup (σ.2 24) D 0 → K τ none) : zC (d + 1) 110 [vR (27), vI ((Bn : Int)), vI ((D : Int))] σ K := by
  refine zC_in rfl ?_
  show zG (d) 110 K 0 zfx (0, [vR (27), vI ((Bn : Int)), vI ((D : Int))], [], σ)
  refine r_aload k_110_0 rfl ?_
  refine r_getR (q := 34) k_110_1 ⟨rfl, rfl⟩ ?_
  refine r_iload k_110_4 rfl ?_
  refine r_iload k_110_5 rfl ?_
  refine r_bin (v := (Bn : Int) + ((D : Int))) k_110_6 (zb_add ⟨by omega, by omega⟩) ?_
  refine r_const k_110_7 ?_
  refine r_iast k_110_8 ⟨rfl, rfl⟩ ⟨by omega, by omega⟩ ?_
  refine r_aload k_110_9 rfl ?_
  refine r_getR (q := 38) k_110_10 ⟨rfl, rfl⟩ ?_
  refine r_iload k_110_13 rfl ?_
  refine r_const k_110_14 ?_
  refine r_bast (v := 0) k_110_15 ⟨rfl, rfl⟩ ⟨by omega, by omega⟩ (by decide) ?_
  refine r_aload k_110_16 rfl ?_
  refine r_getR (q := 39) k_110_17 ⟨rfl, rfl⟩ ?_
  refine r_iload k_110_20 rfl ?_
  refine r_const k_110_21 ?_
  refine r_bast (v := 0) k_110_22 ⟨rfl, rfl⟩ ⟨by omega, by omega⟩ (by decide) ?_
  refine r_aload k_110_23 rfl ?_
  refine r_getR (q := 40) k_110_24 ⟨rfl, rfl⟩ ?_
  refine r_iload k_110_27 rfl ?_
  refine r_const k_110_28 ?_
  refine r_bast (v := 0) k_110_29 ⟨rfl, rfl⟩ ⟨by omega, by omega⟩ (by decide) ?_
  refine r_vret k_110_30 ?_
  refine q1 _ (zfr_A (zfr_A (zfr_A (zfr_A zfr_rf (by decide)) (by decide)) (by decide)) (by decide)) ?_ ?_ ?_ ?_
  · show zup (σ.2 18) ((Bn : Int) + (D : Int)).toNat (-1) = _; rw [show ((Bn : Int) + (D : Int)).toNat = Bn + D by omega]
  · rfl
  · rfl
  · rfl
theorem t_win {d : Nat} {σ : zM} {K : zM → Option zV → Prop} {C : Nat} {law least : Int} {Bn N : Nat} (hL : 0 ≤ law ∧ law ≤ 3) (hM : 1 ≤ least ∧ least ≤ 9) (hC : C ≤ 4) (h10 : σ.2 12 0 = (C : Int)) (h12 : σ.2 12 1 = law) (h13 : σ.2 12 2 = least) (hN : N ≤ 8) (hBN : Bn ≤ 48) : ∀ (n m n0 c D : Nat) (l : List Int) (g s o : Bool) (v : Int) (τ : zM), m * 5 + n0 = n → D + m = N → l.length = Bn + D → c + n0 = C → zcol l → zfr [] [18, 19, 22, 23, 24] σ τ → zrs τ l → τ.2 18 l.length = (c : Int) - 1 → τ.2 22 D = zb1 g → τ.2 23 D = zb1 s → τ.2 24 D = zb1 o → (∀ υ, zfr [] [18, 19, 22, 23, 24] σ υ → zrs υ l → (∀ j, j < D → υ.2 22 j = τ.2 22 j ∧ υ.2 23 j = τ.2 23 j ∧ υ.2 24 j = τ.2 24 j) → zG (d + 3) 111 K 0 zfx (165, [vR 27, vI N, vI Bn, vI (D : Int), vI (((zwn C law least m l n0 c g s o) : Nat) : Int)], [], υ)) → zG (d + 3) 111 K 0 zfx (41, [vR 27, vI N, vI Bn, vI (D : Int), vI v], [], τ) := by
  intro n
  induction n using Nat.strongRecOn with
  | _ n ih =>
  intro m n0 c D l g s o v τ hn hm hlD hcn hc hf hrs hrow hg hs ho hq
  have hlc : (l ++ [(c : Int)]).length = l.length + 1 := zlen1
  refine r_iload k_111_41 rfl ?_
  refine r_if_lt k_111_42 (fun hz => absurd hz (by omega)) (fun _ => ?_)
  refine r_aload k_111_45 rfl ?_
  refine r_getR (q := 34) k_111_46 ⟨rfl, rfl⟩ ?_
  refine r_iload k_111_49 rfl ?_
  refine r_iload k_111_50 rfl ?_
  refine r_bin (v := (Bn : Int) + ((D : Int))) k_111_51 (zb_add ⟨by omega, by omega⟩) ?_
  refine r_dup2 k_111_52 ?_
  refine r_iald (v := ((c : Int) - 1)) k_111_53 ⟨rfl, rfl⟩ ⟨by omega, by omega⟩ (by rw [show ((Bn : Int) + ((D : Int)) : Int).toNat = l.length by omega]; exact hrow) ?_
  refine r_const k_111_54 ?_
  refine r_bin (v := (c : Int)) k_111_55 (by rw [zb_add ⟨by omega, by omega⟩]; omega) ?_
  refine r_iast k_111_56 ⟨rfl, rfl⟩ ⟨by omega, by omega⟩ ?_
  refine r_aload k_111_57 rfl ?_
  refine r_getR (q := 34) k_111_58 ⟨rfl, rfl⟩ ?_
  refine r_iload k_111_61 rfl ?_
  refine r_iload k_111_62 rfl ?_
  refine r_bin (v := (Bn : Int) + ((D : Int))) k_111_63 (zb_add ⟨by omega, by omega⟩) ?_
  refine r_iald (v := (c : Int)) k_111_64 ⟨rfl, rfl⟩ ⟨by omega, by omega⟩ (by rw [zA_2]; exact zup_1 _ _ _) ?_
  refine r_aload k_111_65 rfl ?_
  refine r_getR (q := 28) k_111_66 ⟨rfl, rfl⟩ ?_
  refine r_const k_111_69 ?_
  refine r_iald (v := (C : Int)) k_111_70 ⟨rfl, rfl⟩ ⟨by decide, by decide⟩ ((congrFun (hf.2 12 (by decide)) 0).trans h10) ?_
  refine r_ic_ge k_111_71 (fun h71 => ?_) (fun h71 => ?_)
  · skip
    refine r_aload k_111_123 rfl ?_
    refine r_getR (q := 38) k_111_124 ⟨rfl, rfl⟩ ?_
    refine r_iload k_111_127 rfl ?_
    refine r_bald (v := (zb1 g)) k_111_128 ⟨rfl, rfl⟩ ⟨by omega, by omega⟩ hg ?_
    refine r_if_ne k_111_129 (fun h129 => ?_) (fun h129 => ?_)
    · skip
      refine r_aload k_111_136 rfl ?_
      refine r_getR (q := 39) k_111_137 ⟨rfl, rfl⟩ ?_
      refine r_iload k_111_140 rfl ?_
      refine r_bald (v := (zb1 s)) k_111_141 ⟨rfl, rfl⟩ ⟨by omega, by omega⟩ hs ?_
      refine r_if_eq k_111_142 (fun h142 => ?_) (fun h142 => ?_)
      · skip
        refine r_aload k_111_149 rfl ?_
        refine r_getR (q := 40) k_111_150 ⟨rfl, rfl⟩ ?_
        refine r_iload k_111_153 rfl ?_
        refine r_bald (v := (zb1 o)) k_111_154 ⟨rfl, rfl⟩ ⟨by omega, by omega⟩ ho ?_
        refine r_if_eq k_111_155 (fun h155 => ?_) (fun h155 => ?_)
        · skip
          refine r_const k_111_162 ?_
          refine r_istore (L' := [vR (27), vI ((N : Int)), vI ((Bn : Int)), vI ((D : Int)), vI (0)]) k_111_163 rfl ?_
          obtain rfl : n0 = 0 := by omega
          have ew : (0 : Int) = ((zwn C law least m l 0 c g s o : Nat) : Int) := by
            show (0 : Int) = ((zwf g s o : Nat) : Int)
            unfold zwf
            cases g <;> cases s <;> cases o <;> first | rfl | (exfalso; first | exact absurd rfl (by assumption) | (revert h130; decide) | (revert h142; decide) | (revert h155; decide) | (revert h129; decide) | omega)
          rw [ew]
          exact hq _ (zfr_A hf (by decide)) (zrs_up hrs (by omega)) (fun j hj => ⟨rfl, rfl, rfl⟩)
        · skip
          refine r_const k_111_158 ?_
          refine r_goto k_111_159 ?_
          refine r_istore (L' := [vR (27), vI ((N : Int)), vI ((Bn : Int)), vI ((D : Int)), vI (2)]) k_111_163 rfl ?_
          obtain rfl : n0 = 0 := by omega
          have ew : (2 : Int) = ((zwn C law least m l 0 c g s o : Nat) : Int) := by
            show (2 : Int) = ((zwf g s o : Nat) : Int)
            unfold zwf
            cases g <;> cases s <;> cases o <;> first | rfl | (exfalso; first | exact absurd rfl (by assumption) | (revert h130; decide) | (revert h142; decide) | (revert h155; decide) | (revert h129; decide) | omega)
          rw [ew]
          exact hq _ (zfr_A hf (by decide)) (zrs_up hrs (by omega)) (fun j hj => ⟨rfl, rfl, rfl⟩)
      · skip
        refine r_const k_111_145 ?_
        refine r_goto k_111_146 ?_
        refine r_istore (L' := [vR (27), vI ((N : Int)), vI ((Bn : Int)), vI ((D : Int)), vI (1)]) k_111_163 rfl ?_
        obtain rfl : n0 = 0 := by omega
        have ew : (1 : Int) = ((zwn C law least m l 0 c g s o : Nat) : Int) := by
          show (1 : Int) = ((zwf g s o : Nat) : Int)
          unfold zwf
          cases g <;> cases s <;> cases o <;> first | rfl | (exfalso; first | exact absurd rfl (by assumption) | (revert h130; decide) | (revert h142; decide) | (revert h155; decide) | (revert h129; decide) | omega)
        rw [ew]
        exact hq _ (zfr_A hf (by decide)) (zrs_up hrs (by omega)) (fun j hj => ⟨rfl, rfl, rfl⟩)
    · skip
      refine r_const k_111_132 ?_
      refine r_goto k_111_133 ?_
      refine r_istore (L' := [vR (27), vI ((N : Int)), vI ((Bn : Int)), vI ((D : Int)), vI (0)]) k_111_163 rfl ?_
      obtain rfl : n0 = 0 := by omega
      have ew : (0 : Int) = ((zwn C law least m l 0 c g s o : Nat) : Int) := by
        show (0 : Int) = ((zwf g s o : Nat) : Int)
        unfold zwf
        cases g <;> cases s <;> cases o <;> first | rfl | (exfalso; first | exact absurd rfl (by assumption) | (revert h130; decide) | (revert h142; decide) | (revert h155; decide) | (revert h129; decide) | omega)
      rw [ew]
      exact hq _ (zfr_A hf (by decide)) (zrs_up hrs (by omega)) (fun j hj => ⟨rfl, rfl, rfl⟩)
  · skip
    refine r_aload k_111_74 rfl ?_
    refine r_iload k_111_75 rfl ?_
    refine r_iload k_111_76 rfl ?_
    refine r_bin (v := (Bn : Int) + ((D : Int))) k_111_77 (zb_add ⟨by omega, by omega⟩) ?_
    refine r_const k_111_78 ?_
    refine r_bin (v := (Bn : Int) + ((D : Int)) + 1) k_111_79 (zb_add ⟨by omega, by omega⟩) ?_
    refine r_call (as := [vR (27), vI ((Bn : Int) + ((D : Int)) + 1)]) (r := []) k_111_80 rfl rfl rfl ?_
    have F1a : zfr [] [18, 19, 22, 23, 24] σ (zsetA τ 18 (zup (τ.2 18) ((Bn : Int) + ((D : Int)) : Int).toNat ((c : Int)))) := zfr_A hf (by decide)
    have R1a := zrs_put (c := (c : Int)) (k := ((Bn : Int) + (D : Int)).toNat) hrs (by omega)
    refine t_endsl (l := l ++ [(c : Int)]) hL hM ((congrFun (F1a.2 12 (by decide)) 1).trans h12) ((congrFun (F1a.2 12 (by decide)) 2).trans h13) R1a (zcol_a hc (by omega) (by omega)) (by omega) (by omega) (fun τ1 f1 => ?_)
    have F1 : zfr [] [18, 19, 22, 23, 24] σ τ1 := zfr_2 F1a f1 (by decide) (by decide)
    have R1 : zrs τ1 (l ++ [(c : Int)]) := zrs_fr R1a f1 (by decide)
    have G1 : τ1.2 22 D = zb1 g := by rw [f1.2 22 (by decide)]; exact hg
    have S1 : τ1.2 23 D = zb1 s := by rw [f1.2 23 (by decide)]; exact hs
    have O1 : τ1.2 24 D = zb1 o := by rw [f1.2 24 (by decide)]; exact ho
    have L1 : ∀ j, j < D → τ1.2 22 j = τ.2 22 j ∧ τ1.2 23 j = τ.2 23 j ∧ τ1.2 24 j = τ.2 24 j := fun j _ => ⟨by rw [f1.2 22 (by decide)]; rfl, by rw [f1.2 23 (by decide)]; rfl, by rw [f1.2 24 (by decide)]; rfl⟩
    refine r_if_le k_111_83 (fun h83 => ?_) (fun h83 => ?_)
    · skip
      refine r_aload k_111_89 rfl ?_
      refine r_getR (q := 38) k_111_90 ⟨rfl, rfl⟩ ?_
      refine r_iload k_111_93 rfl ?_
      refine r_const k_111_94 ?_
      refine r_bast (v := 1) k_111_95 ⟨rfl, rfl⟩ ⟨by omega, by omega⟩ (by decide) ?_
      refine r_iload k_111_96 rfl ?_
      refine r_iload k_111_97 rfl ?_
      refine r_ic_ne k_111_98 (fun h98 => ?_) (fun h98 => ?_)
      · skip
        refine r_iinc (v := (D : Int) + 1) (L' := [vR (27), vI ((N : Int)), vI ((Bn : Int)), vI ((D : Int) + 1), vI (v)]) k_111_111 rfl (zb_add ⟨by omega, by omega⟩) rfl ?_
        refine r_aload k_111_114 rfl ?_
        refine r_iload k_111_115 rfl ?_
        refine r_iload k_111_116 rfl ?_
        refine r_call (as := [vR (27), vI ((Bn : Int)), vI ((D : Int) + 1)]) (r := []) k_111_117 rfl rfl rfl ?_
        obtain ⟨m1, rfl⟩ : ∃ m1, m = m1 + 1 := ⟨m - 1, by omega⟩
        refine t_comes (Bn := Bn) (D := D + 1) (by omega) (by omega) (fun τ2 f2 e18 e22 e23 e24 => ?_)
        have F2 : zfr [] [18, 19, 22, 23, 24] σ τ2 := zfr_2 (zfr_A F1 (by decide)) f2 (by decide) (by decide)
        refine r_goto k_111_120 ?_
        obtain ⟨n1, rfl⟩ : ∃ n1, n0 = n1 + 1 := ⟨n0 - 1, by omega⟩
        refine ih (m1 * 5 + C) (by omega) m1 C 0 (D + 1) (l ++ [(c : Int)]) false false false v τ2 rfl (by omega) (by omega) (by omega) (zcol_a hc (by omega) (by omega)) F2 (fun j hj => ?_) ?_ (by rw [e22, zup_1]; rfl) (by rw [e23, zup_1]; rfl) (by rw [e24, zup_1]; rfl) (fun υ fu ru lu => ?_)
        · rw [e18, zup_n (by omega)]; exact R1 j hj
        · rw [e18, hlc, show l.length + 1 = Bn + (D + 1) by omega, zup_1]; rfl
        rw [zwn_0]
        have hD := lu D (by omega)
        rw [e22, e23, e24, zup_n (by omega), zup_n (by omega), zup_n (by omega)] at hD
        have u22 : υ.2 22 D = 1 := hD.1.trans (by rw [zA_2, Int.toNat_natCast, zup_1])
        have u23 : υ.2 23 D = zb1 s := hD.2.1.trans S1
        have u24 : υ.2 24 D = zb1 o := hD.2.2.trans O1
        have ul : ∀ j, j < D → υ.2 22 j = τ.2 22 j ∧ υ.2 23 j = τ.2 23 j ∧ υ.2 24 j = τ.2 24 j := fun j hj => by
          have h3 := lu j (by omega)
          rw [e22, e23, e24, zup_n (by omega), zup_n (by omega), zup_n (by omega), zA_2, Int.toNat_natCast, zup_n (by omega)] at h3
          exact ⟨h3.1.trans (L1 j hj).1, h3.2.1.trans (L1 j hj).2.1, h3.2.2.trans (L1 j hj).2.2⟩
        have hvl := zval_le C law least m1 (l ++ [(c : Int)])
        refine r_iinc (v := (D : Int)) (L' := [vR (27), vI ((N : Int)), vI ((Bn : Int)), vI ((D : Int)), vI (((zval C law least m1 (l ++ [(c : Int)]) : Nat) : Int))]) k_111_165 rfl (by rw [zb_add ⟨by omega, by omega⟩]; omega) rfl ?_
        refine r_iload k_111_168 rfl ?_
        refine r_if_lt k_111_169 (fun hz => absurd hz (by omega)) (fun _ => ?_)
        refine r_aload k_111_172 rfl ?_
        refine r_getR (q := 39) k_111_173 ⟨rfl, rfl⟩ ?_
        refine r_iload k_111_176 rfl ?_
        refine r_aload k_111_177 rfl ?_
        refine r_getR (q := 39) k_111_178 ⟨rfl, rfl⟩ ?_
        refine r_iload k_111_181 rfl ?_
        refine r_bald (v := (zb1 s)) k_111_182 ⟨rfl, rfl⟩ ⟨by omega, by omega⟩ u23 ?_
        refine r_if_ne k_111_183 (fun h183 => ?_) (fun h183 => ?_)
        · skip
          refine r_const k_111_191 ?_
          refine r_goto k_111_192 ?_
          refine r_bast (v := 1) k_111_196 ⟨rfl, rfl⟩ ⟨by omega, by omega⟩ (by decide) ?_
          refine r_aload k_111_197 rfl ?_
          refine r_getR (q := 40) k_111_198 ⟨rfl, rfl⟩ ?_
          refine r_iload k_111_201 rfl ?_
          refine r_aload k_111_202 rfl ?_
          refine r_getR (q := 40) k_111_203 ⟨rfl, rfl⟩ ?_
          refine r_iload k_111_206 rfl ?_
          refine r_bald (v := (zb1 o)) k_111_207 ⟨rfl, rfl⟩ ⟨by omega, by omega⟩ u24 ?_
          refine r_if_ne k_111_208 (fun h208 => ?_) (fun h208 => ?_)
          · skip
            refine r_const k_111_217 ?_
            refine r_goto k_111_218 ?_
            refine r_bast (v := 1) k_111_222 ⟨rfl, rfl⟩ ⟨by omega, by omega⟩ (by decide) ?_
            refine r_goto k_111_223 ?_
            have es : 1 = zb1 (s || decide ((zval C law least m1 (l ++ [(c : Int)])) = 0)) := zor1 (by first | exact Or.inl (by assumption) | exact Or.inr (decide_eq_true (by omega)))
            have eo : 1 = zb1 (o || decide ((zval C law least m1 (l ++ [(c : Int)])) = 2)) := zor1 (by first | exact Or.inl (by assumption) | exact Or.inr (decide_eq_true (by omega)))
            have e : zwn C law least (m1 + 1) l (n1 + 1) c g s o = zwn C law least (m1 + 1) l n1 (c + 1) true (s || decide ((zval C law least m1 (l ++ [(c : Int)])) = 0)) (o || decide ((zval C law least m1 (l ++ [(c : Int)])) = 2)) := by rw [zwn, if_pos (zok_t (by omega))]; simp
            rw [e] at hq
            refine ih _ (by omega) (m1 + 1) n1 (c + 1) D l true _ _ _ _ rfl hm hlD (by omega) hc (zfr_A (zfr_A fu (by decide)) (by decide)) (fun j hj => (zrs_l ru) j hj) ?_ ?_ ?_ ?_ (fun ω fw rw2 lw => hq ω fw rw2 (fun j hj => ?_))
            · show υ.2 18 l.length = _; rw [zrs_e ru]; omega
            · exact u22
            · show zup (υ.2 23) (D : Int).toNat 1 D = _; rw [Int.toNat_natCast, zup_1]; exact es
            · rw [zA_2, Int.toNat_natCast, zup_1]; exact eo
            · have h3 := lw j hj
              rw [zA_2, Int.toNat_natCast, zup_n (by omega), zA_n (show (23 : Nat) ≠ 24 by decide), zA_2, zup_n (by omega)] at h3
              exact ⟨h3.1.trans (ul j hj).1, h3.2.1.trans (ul j hj).2.1, h3.2.2.trans (ul j hj).2.2⟩
          · skip
            refine r_iload k_111_211 rfl ?_
            refine r_const k_111_213 ?_
            refine r_ic_ne k_111_214 (fun h214 => ?_) (fun h214 => ?_)
            · skip
              refine r_const k_111_221 ?_
              refine r_bast (v := 0) k_111_222 ⟨rfl, rfl⟩ ⟨by omega, by omega⟩ (by decide) ?_
              refine r_goto k_111_223 ?_
              have es : 1 = zb1 (s || decide ((zval C law least m1 (l ++ [(c : Int)])) = 0)) := zor1 (by first | exact Or.inl (by assumption) | exact Or.inr (decide_eq_true (by omega)))
              have eo : 0 = zb1 (o || decide ((zval C law least m1 (l ++ [(c : Int)])) = 2)) := zor0 (by omega) (decide_eq_false (by omega))
              have e : zwn C law least (m1 + 1) l (n1 + 1) c g s o = zwn C law least (m1 + 1) l n1 (c + 1) true (s || decide ((zval C law least m1 (l ++ [(c : Int)])) = 0)) (o || decide ((zval C law least m1 (l ++ [(c : Int)])) = 2)) := by rw [zwn, if_pos (zok_t (by omega))]; simp
              rw [e] at hq
              refine ih _ (by omega) (m1 + 1) n1 (c + 1) D l true _ _ _ _ rfl hm hlD (by omega) hc (zfr_A (zfr_A fu (by decide)) (by decide)) (fun j hj => (zrs_l ru) j hj) ?_ ?_ ?_ ?_ (fun ω fw rw2 lw => hq ω fw rw2 (fun j hj => ?_))
              · show υ.2 18 l.length = _; rw [zrs_e ru]; omega
              · exact u22
              · show zup (υ.2 23) (D : Int).toNat 1 D = _; rw [Int.toNat_natCast, zup_1]; exact es
              · rw [zA_2, Int.toNat_natCast, zup_1]; exact eo
              · have h3 := lw j hj
                rw [zA_2, Int.toNat_natCast, zup_n (by omega), zA_n (show (23 : Nat) ≠ 24 by decide), zA_2, zup_n (by omega)] at h3
                exact ⟨h3.1.trans (ul j hj).1, h3.2.1.trans (ul j hj).2.1, h3.2.2.trans (ul j hj).2.2⟩
            · skip
              refine r_const k_111_217 ?_
              refine r_goto k_111_218 ?_
              refine r_bast (v := 1) k_111_222 ⟨rfl, rfl⟩ ⟨by omega, by omega⟩ (by decide) ?_
              refine r_goto k_111_223 ?_
              have es : 1 = zb1 (s || decide ((zval C law least m1 (l ++ [(c : Int)])) = 0)) := zor1 (by first | exact Or.inl (by assumption) | exact Or.inr (decide_eq_true (by omega)))
              have eo : 1 = zb1 (o || decide ((zval C law least m1 (l ++ [(c : Int)])) = 2)) := zor1 (by first | exact Or.inl (by assumption) | exact Or.inr (decide_eq_true (by omega)))
              have e : zwn C law least (m1 + 1) l (n1 + 1) c g s o = zwn C law least (m1 + 1) l n1 (c + 1) true (s || decide ((zval C law least m1 (l ++ [(c : Int)])) = 0)) (o || decide ((zval C law least m1 (l ++ [(c : Int)])) = 2)) := by rw [zwn, if_pos (zok_t (by omega))]; simp
              rw [e] at hq
              refine ih _ (by omega) (m1 + 1) n1 (c + 1) D l true _ _ _ _ rfl hm hlD (by omega) hc (zfr_A (zfr_A fu (by decide)) (by decide)) (fun j hj => (zrs_l ru) j hj) ?_ ?_ ?_ ?_ (fun ω fw rw2 lw => hq ω fw rw2 (fun j hj => ?_))
              · show υ.2 18 l.length = _; rw [zrs_e ru]; omega
              · exact u22
              · show zup (υ.2 23) (D : Int).toNat 1 D = _; rw [Int.toNat_natCast, zup_1]; exact es
              · rw [zA_2, Int.toNat_natCast, zup_1]; exact eo
              · have h3 := lw j hj
                rw [zA_2, Int.toNat_natCast, zup_n (by omega), zA_n (show (23 : Nat) ≠ 24 by decide), zA_2, zup_n (by omega)] at h3
                exact ⟨h3.1.trans (ul j hj).1, h3.2.1.trans (ul j hj).2.1, h3.2.2.trans (ul j hj).2.2⟩
        · skip
          refine r_iload k_111_186 rfl ?_
          refine r_if_ne k_111_188 (fun h188 => ?_) (fun h188 => ?_)
          · skip
            refine r_const k_111_195 ?_
            refine r_bast (v := 0) k_111_196 ⟨rfl, rfl⟩ ⟨by omega, by omega⟩ (by decide) ?_
            refine r_aload k_111_197 rfl ?_
            refine r_getR (q := 40) k_111_198 ⟨rfl, rfl⟩ ?_
            refine r_iload k_111_201 rfl ?_
            refine r_aload k_111_202 rfl ?_
            refine r_getR (q := 40) k_111_203 ⟨rfl, rfl⟩ ?_
            refine r_iload k_111_206 rfl ?_
            refine r_bald (v := (zb1 o)) k_111_207 ⟨rfl, rfl⟩ ⟨by omega, by omega⟩ u24 ?_
            refine r_if_ne k_111_208 (fun h208 => ?_) (fun h208 => ?_)
            · skip
              refine r_const k_111_217 ?_
              refine r_goto k_111_218 ?_
              refine r_bast (v := 1) k_111_222 ⟨rfl, rfl⟩ ⟨by omega, by omega⟩ (by decide) ?_
              refine r_goto k_111_223 ?_
              have es : 0 = zb1 (s || decide ((zval C law least m1 (l ++ [(c : Int)])) = 0)) := zor0 (by omega) (decide_eq_false (by omega))
              have eo : 1 = zb1 (o || decide ((zval C law least m1 (l ++ [(c : Int)])) = 2)) := zor1 (by first | exact Or.inl (by assumption) | exact Or.inr (decide_eq_true (by omega)))
              have e : zwn C law least (m1 + 1) l (n1 + 1) c g s o = zwn C law least (m1 + 1) l n1 (c + 1) true (s || decide ((zval C law least m1 (l ++ [(c : Int)])) = 0)) (o || decide ((zval C law least m1 (l ++ [(c : Int)])) = 2)) := by rw [zwn, if_pos (zok_t (by omega))]; simp
              rw [e] at hq
              refine ih _ (by omega) (m1 + 1) n1 (c + 1) D l true _ _ _ _ rfl hm hlD (by omega) hc (zfr_A (zfr_A fu (by decide)) (by decide)) (fun j hj => (zrs_l ru) j hj) ?_ ?_ ?_ ?_ (fun ω fw rw2 lw => hq ω fw rw2 (fun j hj => ?_))
              · show υ.2 18 l.length = _; rw [zrs_e ru]; omega
              · exact u22
              · show zup (υ.2 23) (D : Int).toNat 0 D = _; rw [Int.toNat_natCast, zup_1]; exact es
              · rw [zA_2, Int.toNat_natCast, zup_1]; exact eo
              · have h3 := lw j hj
                rw [zA_2, Int.toNat_natCast, zup_n (by omega), zA_n (show (23 : Nat) ≠ 24 by decide), zA_2, zup_n (by omega)] at h3
                exact ⟨h3.1.trans (ul j hj).1, h3.2.1.trans (ul j hj).2.1, h3.2.2.trans (ul j hj).2.2⟩
            · skip
              refine r_iload k_111_211 rfl ?_
              refine r_const k_111_213 ?_
              refine r_ic_ne k_111_214 (fun h214 => ?_) (fun h214 => ?_)
              · skip
                refine r_const k_111_221 ?_
                refine r_bast (v := 0) k_111_222 ⟨rfl, rfl⟩ ⟨by omega, by omega⟩ (by decide) ?_
                refine r_goto k_111_223 ?_
                have es : 0 = zb1 (s || decide ((zval C law least m1 (l ++ [(c : Int)])) = 0)) := zor0 (by omega) (decide_eq_false (by omega))
                have eo : 0 = zb1 (o || decide ((zval C law least m1 (l ++ [(c : Int)])) = 2)) := zor0 (by omega) (decide_eq_false (by omega))
                have e : zwn C law least (m1 + 1) l (n1 + 1) c g s o = zwn C law least (m1 + 1) l n1 (c + 1) true (s || decide ((zval C law least m1 (l ++ [(c : Int)])) = 0)) (o || decide ((zval C law least m1 (l ++ [(c : Int)])) = 2)) := by rw [zwn, if_pos (zok_t (by omega))]; simp
                rw [e] at hq
                refine ih _ (by omega) (m1 + 1) n1 (c + 1) D l true _ _ _ _ rfl hm hlD (by omega) hc (zfr_A (zfr_A fu (by decide)) (by decide)) (fun j hj => (zrs_l ru) j hj) ?_ ?_ ?_ ?_ (fun ω fw rw2 lw => hq ω fw rw2 (fun j hj => ?_))
                · show υ.2 18 l.length = _; rw [zrs_e ru]; omega
                · exact u22
                · show zup (υ.2 23) (D : Int).toNat 0 D = _; rw [Int.toNat_natCast, zup_1]; exact es
                · rw [zA_2, Int.toNat_natCast, zup_1]; exact eo
                · have h3 := lw j hj
                  rw [zA_2, Int.toNat_natCast, zup_n (by omega), zA_n (show (23 : Nat) ≠ 24 by decide), zA_2, zup_n (by omega)] at h3
                  exact ⟨h3.1.trans (ul j hj).1, h3.2.1.trans (ul j hj).2.1, h3.2.2.trans (ul j hj).2.2⟩
              · skip
                refine r_const k_111_217 ?_
                refine r_goto k_111_218 ?_
                refine r_bast (v := 1) k_111_222 ⟨rfl, rfl⟩ ⟨by omega, by omega⟩ (by decide) ?_
                refine r_goto k_111_223 ?_
                have es : 0 = zb1 (s || decide ((zval C law least m1 (l ++ [(c : Int)])) = 0)) := zor0 (by omega) (decide_eq_false (by omega))
                have eo : 1 = zb1 (o || decide ((zval C law least m1 (l ++ [(c : Int)])) = 2)) := zor1 (by first | exact Or.inl (by assumption) | exact Or.inr (decide_eq_true (by omega)))
                have e : zwn C law least (m1 + 1) l (n1 + 1) c g s o = zwn C law least (m1 + 1) l n1 (c + 1) true (s || decide ((zval C law least m1 (l ++ [(c : Int)])) = 0)) (o || decide ((zval C law least m1 (l ++ [(c : Int)])) = 2)) := by rw [zwn, if_pos (zok_t (by omega))]; simp
                rw [e] at hq
                refine ih _ (by omega) (m1 + 1) n1 (c + 1) D l true _ _ _ _ rfl hm hlD (by omega) hc (zfr_A (zfr_A fu (by decide)) (by decide)) (fun j hj => (zrs_l ru) j hj) ?_ ?_ ?_ ?_ (fun ω fw rw2 lw => hq ω fw rw2 (fun j hj => ?_))
                · show υ.2 18 l.length = _; rw [zrs_e ru]; omega
                · exact u22
                · show zup (υ.2 23) (D : Int).toNat 0 D = _; rw [Int.toNat_natCast, zup_1]; exact es
                · rw [zA_2, Int.toNat_natCast, zup_1]; exact eo
                · have h3 := lw j hj
                  rw [zA_2, Int.toNat_natCast, zup_n (by omega), zA_n (show (23 : Nat) ≠ 24 by decide), zA_2, zup_n (by omega)] at h3
                  exact ⟨h3.1.trans (ul j hj).1, h3.2.1.trans (ul j hj).2.1, h3.2.2.trans (ul j hj).2.2⟩
          · skip
            refine r_const k_111_191 ?_
            refine r_goto k_111_192 ?_
            refine r_bast (v := 1) k_111_196 ⟨rfl, rfl⟩ ⟨by omega, by omega⟩ (by decide) ?_
            refine r_aload k_111_197 rfl ?_
            refine r_getR (q := 40) k_111_198 ⟨rfl, rfl⟩ ?_
            refine r_iload k_111_201 rfl ?_
            refine r_aload k_111_202 rfl ?_
            refine r_getR (q := 40) k_111_203 ⟨rfl, rfl⟩ ?_
            refine r_iload k_111_206 rfl ?_
            refine r_bald (v := (zb1 o)) k_111_207 ⟨rfl, rfl⟩ ⟨by omega, by omega⟩ u24 ?_
            refine r_if_ne k_111_208 (fun h208 => ?_) (fun h208 => ?_)
            · skip
              refine r_const k_111_217 ?_
              refine r_goto k_111_218 ?_
              refine r_bast (v := 1) k_111_222 ⟨rfl, rfl⟩ ⟨by omega, by omega⟩ (by decide) ?_
              refine r_goto k_111_223 ?_
              have es : 1 = zb1 (s || decide ((zval C law least m1 (l ++ [(c : Int)])) = 0)) := zor1 (by first | exact Or.inl (by assumption) | exact Or.inr (decide_eq_true (by omega)))
              have eo : 1 = zb1 (o || decide ((zval C law least m1 (l ++ [(c : Int)])) = 2)) := zor1 (by first | exact Or.inl (by assumption) | exact Or.inr (decide_eq_true (by omega)))
              have e : zwn C law least (m1 + 1) l (n1 + 1) c g s o = zwn C law least (m1 + 1) l n1 (c + 1) true (s || decide ((zval C law least m1 (l ++ [(c : Int)])) = 0)) (o || decide ((zval C law least m1 (l ++ [(c : Int)])) = 2)) := by rw [zwn, if_pos (zok_t (by omega))]; simp
              rw [e] at hq
              refine ih _ (by omega) (m1 + 1) n1 (c + 1) D l true _ _ _ _ rfl hm hlD (by omega) hc (zfr_A (zfr_A fu (by decide)) (by decide)) (fun j hj => (zrs_l ru) j hj) ?_ ?_ ?_ ?_ (fun ω fw rw2 lw => hq ω fw rw2 (fun j hj => ?_))
              · show υ.2 18 l.length = _; rw [zrs_e ru]; omega
              · exact u22
              · show zup (υ.2 23) (D : Int).toNat 1 D = _; rw [Int.toNat_natCast, zup_1]; exact es
              · rw [zA_2, Int.toNat_natCast, zup_1]; exact eo
              · have h3 := lw j hj
                rw [zA_2, Int.toNat_natCast, zup_n (by omega), zA_n (show (23 : Nat) ≠ 24 by decide), zA_2, zup_n (by omega)] at h3
                exact ⟨h3.1.trans (ul j hj).1, h3.2.1.trans (ul j hj).2.1, h3.2.2.trans (ul j hj).2.2⟩
            · skip
              refine r_iload k_111_211 rfl ?_
              refine r_const k_111_213 ?_
              refine r_ic_ne k_111_214 (fun h214 => ?_) (fun h214 => ?_)
              · skip
                refine r_const k_111_221 ?_
                refine r_bast (v := 0) k_111_222 ⟨rfl, rfl⟩ ⟨by omega, by omega⟩ (by decide) ?_
                refine r_goto k_111_223 ?_
                have es : 1 = zb1 (s || decide ((zval C law least m1 (l ++ [(c : Int)])) = 0)) := zor1 (by first | exact Or.inl (by assumption) | exact Or.inr (decide_eq_true (by omega)))
                have eo : 0 = zb1 (o || decide ((zval C law least m1 (l ++ [(c : Int)])) = 2)) := zor0 (by omega) (decide_eq_false (by omega))
                have e : zwn C law least (m1 + 1) l (n1 + 1) c g s o = zwn C law least (m1 + 1) l n1 (c + 1) true (s || decide ((zval C law least m1 (l ++ [(c : Int)])) = 0)) (o || decide ((zval C law least m1 (l ++ [(c : Int)])) = 2)) := by rw [zwn, if_pos (zok_t (by omega))]; simp
                rw [e] at hq
                refine ih _ (by omega) (m1 + 1) n1 (c + 1) D l true _ _ _ _ rfl hm hlD (by omega) hc (zfr_A (zfr_A fu (by decide)) (by decide)) (fun j hj => (zrs_l ru) j hj) ?_ ?_ ?_ ?_ (fun ω fw rw2 lw => hq ω fw rw2 (fun j hj => ?_))
                · show υ.2 18 l.length = _; rw [zrs_e ru]; omega
                · exact u22
                · show zup (υ.2 23) (D : Int).toNat 1 D = _; rw [Int.toNat_natCast, zup_1]; exact es
                · rw [zA_2, Int.toNat_natCast, zup_1]; exact eo
                · have h3 := lw j hj
                  rw [zA_2, Int.toNat_natCast, zup_n (by omega), zA_n (show (23 : Nat) ≠ 24 by decide), zA_2, zup_n (by omega)] at h3
                  exact ⟨h3.1.trans (ul j hj).1, h3.2.1.trans (ul j hj).2.1, h3.2.2.trans (ul j hj).2.2⟩
              · skip
                refine r_const k_111_217 ?_
                refine r_goto k_111_218 ?_
                refine r_bast (v := 1) k_111_222 ⟨rfl, rfl⟩ ⟨by omega, by omega⟩ (by decide) ?_
                refine r_goto k_111_223 ?_
                have es : 1 = zb1 (s || decide ((zval C law least m1 (l ++ [(c : Int)])) = 0)) := zor1 (by first | exact Or.inl (by assumption) | exact Or.inr (decide_eq_true (by omega)))
                have eo : 1 = zb1 (o || decide ((zval C law least m1 (l ++ [(c : Int)])) = 2)) := zor1 (by first | exact Or.inl (by assumption) | exact Or.inr (decide_eq_true (by omega)))
                have e : zwn C law least (m1 + 1) l (n1 + 1) c g s o = zwn C law least (m1 + 1) l n1 (c + 1) true (s || decide ((zval C law least m1 (l ++ [(c : Int)])) = 0)) (o || decide ((zval C law least m1 (l ++ [(c : Int)])) = 2)) := by rw [zwn, if_pos (zok_t (by omega))]; simp
                rw [e] at hq
                refine ih _ (by omega) (m1 + 1) n1 (c + 1) D l true _ _ _ _ rfl hm hlD (by omega) hc (zfr_A (zfr_A fu (by decide)) (by decide)) (fun j hj => (zrs_l ru) j hj) ?_ ?_ ?_ ?_ (fun ω fw rw2 lw => hq ω fw rw2 (fun j hj => ?_))
                · show υ.2 18 l.length = _; rw [zrs_e ru]; omega
                · exact u22
                · show zup (υ.2 23) (D : Int).toNat 1 D = _; rw [Int.toNat_natCast, zup_1]; exact es
                · rw [zA_2, Int.toNat_natCast, zup_1]; exact eo
                · have h3 := lw j hj
                  rw [zA_2, Int.toNat_natCast, zup_n (by omega), zA_n (show (23 : Nat) ≠ 24 by decide), zA_2, zup_n (by omega)] at h3
                  exact ⟨h3.1.trans (ul j hj).1, h3.2.1.trans (ul j hj).2.1, h3.2.2.trans (ul j hj).2.2⟩
      · skip
        refine r_aload k_111_101 rfl ?_
        refine r_getR (q := 40) k_111_102 ⟨rfl, rfl⟩ ?_
        refine r_iload k_111_105 rfl ?_
        refine r_const k_111_106 ?_
        refine r_bast (v := 1) k_111_107 ⟨rfl, rfl⟩ ⟨by omega, by omega⟩ (by decide) ?_
        refine r_goto k_111_108 ?_
        obtain ⟨n1, rfl⟩ : ∃ n1, n0 = n1 + 1 := ⟨n0 - 1, by omega⟩
        obtain rfl : m = 0 := by omega
        have e : zwn C law least 0 l (n1 + 1) c g s o = zwn C law least 0 l n1 (c + 1) true s true := by rw [zwn, if_pos (zok_t (by omega))]; simp
        rw [e] at hq
        refine ih _ (by omega) 0 n1 (c + 1) D l true s true v _ rfl hm hlD (by omega) hc (zfr_A (zfr_A F1 (by decide)) (by decide)) (fun j hj => (zrs_l R1) j hj) ?_ ?_ ?_ ?_ (fun υ fu ru lu => hq υ fu ru (fun j hj => ?_))
        · show τ1.2 18 l.length = _; rw [zrs_e R1]; omega
        · show zup (τ1.2 22) (D : Int).toNat 1 D = 1; rw [Int.toNat_natCast, zup_1]
        · exact S1
        · rw [zA_2, Int.toNat_natCast, zup_1]; rfl
        · have h3 := lu j hj
          rw [zA_n (show (22 : Nat) ≠ 24 by decide), zA_2, Int.toNat_natCast, zup_n (by omega), zA_2, zup_n (by omega)] at h3
          exact ⟨h3.1.trans (L1 j hj).1, h3.2.1.trans (L1 j hj).2.1, h3.2.2.trans (L1 j hj).2.2⟩
    · skip
      refine r_goto k_111_86 ?_
      obtain ⟨n1, rfl⟩ : ∃ n1, n0 = n1 + 1 := ⟨n0 - 1, by omega⟩
      have e : zwn C law least m l (n1 + 1) c g s o = zwn C law least m l n1 (c + 1) g s o := by rw [zwn, if_neg (zok_f (by omega))]
      rw [e] at hq
      exact ih _ (by omega) m n1 (c + 1) D l g s o v τ1 rfl hm hlD (by omega) hc F1 (zrs_l R1) (by rw [zrs_e R1]; omega) G1 S1 O1 (fun υ fu ru lu => hq υ fu ru (fun j hj => ⟨(lu j hj).1.trans (L1 j hj).1, (lu j hj).2.1.trans (L1 j hj).2.1, (lu j hj).2.2.trans (L1 j hj).2.2⟩))
