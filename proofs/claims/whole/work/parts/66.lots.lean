/-! lots: the two alike -/
def zbt (s : Int) (c : Nat) : Int := zbin 3 (zbin 6 s (c : Int)) 1
def zdx (s : Int) : Nat → Nat → Int → Int
  | 0, _, _ => 0
  | m + 1, c, a => if zbt s c = 0 then zdx s m (c + 1) a else if a = 0 then (c : Int) else zdx s m (c + 1) (a - 1)
def zdy (s : Int) : Nat → Nat → Int → Option Nat
  | 0, _, _ => none
  | m + 1, c, a => if zbt s c = 0 ∨ 0 < a then zdy s m (c + 1) (a - zbt s c) else some c
def zdn (d : Int) : Int := (d * 1103515245 + 12345) % 2147483648
theorem zbt_f : ∀ s : Fin 16, ∀ c : Fin 8, zbt (s.val : Int) c.val = 0 ∨ zbt (s.val : Int) c.val = 1 := by decide +kernel
theorem zbt_01 {s : Int} (h : 0 ≤ s ∧ s < 16) {c : Nat} (hc : c < 8) : zbt s c = 0 ∨ zbt s c = 1 := by
  have := zbt_f ⟨s.toNat, by omega⟩ ⟨c, hc⟩
  rw [show ((s.toNat : Nat) : Int) = s by omega] at this
  exact this
theorem zdx_f : ∀ s : Fin 16, ∀ a : Fin 4, (a.val : Int) < zpc (s.val : Int) → zdy (s.val : Int) 5 0 (a.val : Int) = some (zdx (s.val : Int) 4 0 (a.val : Int)).toNat ∧ 0 ≤ zdx (s.val : Int) 4 0 (a.val : Int) ∧ (s.val < 4 → zdx (s.val : Int) 4 0 (a.val : Int) < 2) ∧ (s.val < 8 → zdx (s.val : Int) 4 0 (a.val : Int) < 3) ∧ zdx (s.val : Int) 4 0 (a.val : Int) < 4 := by decide +kernel
theorem zset_lt {P : Nat → Bool} : zset P 2 < 4 ∧ zset P 3 < 8 := by
  constructor
  · show (0 : Int) + (if P 0 = true then (2 : Int) ^ 0 else 0) + (if P 1 = true then (2 : Int) ^ 1 else 0) < 4
    cases P 0 <;> cases P 1 <;> decide
  · show (0 : Int) + (if P 0 = true then (2 : Int) ^ 0 else 0) + (if P 1 = true then (2 : Int) ^ 1 else 0) + (if P 2 = true then (2 : Int) ^ 2 else 0) < 8
    cases P 0 <;> cases P 1 <;> cases P 2 <;> decide
theorem zmay_lt {C : Nat} {law least : Int} {l : List Int} : (C = 2 → zmay C law least l < 4) ∧ (C = 3 → zmay C law least l < 8) := by
  unfold zmay
  constructor
  · intro e; subst e; split
    · exact zset_lt.1
    · decide
  · intro e; subst e; split
    · exact zset_lt.2
    · decide
theorem zdx_ok {C : Nat} {law least : Int} {l : List Int} (hC : 2 ≤ C) (hC4 : C ≤ 4) {a : Int} (h0 : 0 ≤ a) (ha : a < zpc (zmay C law least l)) : zdy (zmay C law least l) 5 0 a = some (zdx (zmay C law least l) 4 0 a).toNat ∧ 0 ≤ zdx (zmay C law least l) 4 0 a ∧ zdx (zmay C law least l) 4 0 a < (C : Int) := by
  have h15 := zmay_15 (law := law) (least := least) (l := l) hC4
  have hlt := zmay_lt (C := C) (law := law) (least := least) (l := l)
  have hpc := zpc_b h15
  obtain ⟨s, hs⟩ : ∃ s, s = zmay C law least l := ⟨_, rfl⟩
  rw [← hs] at ha h15 hlt hpc ⊢
  have h := zdx_f ⟨s.toNat, by omega⟩ ⟨a.toNat, by omega⟩
  dsimp only at h
  rw [show ((s.toNat : Nat) : Int) = s by omega, show ((a.toNat : Nat) : Int) = a by omega] at h
  obtain ⟨h1, h2, h3, h4, h5⟩ := h ha
  refine ⟨h1, h2, ?_⟩
  rcases (show C = 2 ∨ C = 3 ∨ C = 4 by omega) with e | e | e
  · have := hlt.1 e
    have := h3 (by omega)
    omega
  · have := hlt.2 e
    have := h4 (by omega)
    omega
  · omega
theorem zdn_b (d : Int) : 0 ≤ zdn d ∧ zdn d < 2147483648 := by unfold zdn; omega
theorem zmad (d a b : Int) : zbin 0 (zbin 2 d a) b = (d * a + b).bmod 4294967296 := by
  show (Int32.ofInt (Int32.ofInt d * Int32.ofInt a).toInt + Int32.ofInt b).toInt = _
  rw [Int32.ofInt_toInt, ← Int32.ofInt_mul, ← Int32.ofInt_add]
  exact Int32.toInt_ofInt
theorem zbm31 (X : Int) : X.bmod 4294967296 % 2147483648 = X % 2147483648 := by
  rw [Int.bmod_def]
  split <;> omega
theorem zdn_x (d : Int) : zbin 3 (zbin 0 (zbin 2 d 1103515245) 12345) 2147483647 = zdn d := by
  rw [zand31, zmad, zbm31]
  rfl
theorem zsm31 {v : Int} (h : 0 ≤ v ∧ v < 2147483648) : (Int64.ofInt v).toInt32.toInt = v := by
  rw [Int64.toInt_toInt32, Int64.toInt_ofInt_of_le (by omega) (by omega), Int.bmod_def]
  split <;> omega
/-- the next colour by lots -/
def zdc (C : Nat) (law least : Int) (a : List Int) (dr : Int) : Int := zdx (zmay C law least a) 4 0 (zdn dr / 65536 % zpc (zmay C law least a))
def zlo (C : Nat) (law least : Int) : Nat → List Int → Int → List Int × Int
  | 0, a, dr => (a, dr)
  | m + 1, a, dr => if zmay C law least a = 0 then (a, dr) else zlo C law least m (a ++ [zdc C law least a dr]) (zdn dr)
theorem zgd_next {C : Nat} {law least dr : Int} {a : List Int} {p : Nat → Int} (h : zgd C law least dr a p) (h0 : zmay C law least a ≠ 0) (hl : a.length < 48) : zgd C law least (zdn dr) (a ++ [zdc C law least a dr]) p ∧ zdy (zmay C law least a) 5 0 (zdn dr / 65536 % zpc (zmay C law least a)) = some (zdc C law least a dr).toNat ∧ 0 ≤ zdc C law least a dr ∧ zdc C law least a dr < 4 := by
  have hC := h.1.1
  have hC4 := h.1.2.1
  have h15 := zmay_15 (law := law) (least := least) (l := a) (C := C) (by omega)
  have hpc : zpc (zmay C law least a) ≠ 0 := fun q => h0 ((zpc_0 h15).mp q)
  have hpb := zpc_b h15
  have hx := zdx_ok (C := C) (law := law) (least := least) (l := a) (by omega) (by omega) (a := zdn dr / 65536 % zpc (zmay C law least a)) (Int.emod_nonneg _ hpc) (Int.emod_lt_of_pos _ (by omega))
  refine ⟨⟨h.1, zdn_b dr, by rw [zlen1]; omega, fun x hx0 => ?_, h.2.2.2.2⟩, hx.1, hx.2.1, by have := hx.2.2; unfold zdc; omega⟩
  rcases List.mem_append.mp hx0 with q | q
  · exact h.2.2.2.1 x q
  · rw [List.mem_singleton.mp q]; exact hx.2
theorem s_drawn {d : Nat} {σ : zM} {K : zM → Option zV → Prop} {s lot : Int} (hs : 0 ≤ s ∧ s < 16) (h0 : s ≠ 0) (l0 : 0 ≤ lot) (l1 : lot < 2147483648) (q1 : K σ (some (vI (zdx s 4 0 (lot % zpc s))))) : zC (d + 1 + 1) 61 [vI (s), vI (lot)] σ K := by
  refine zC_in rfl ?_
  have lp : ∀ (n : Nat) (c : Nat) (a b : Int), c + n = 4 → 0 ≤ a → a ≤ 100 → K σ (some (vI (zdx s n c a))) → zG (d + 1) 61 K 0 zfx (20, [vI (s), vI (lot), vI (b), vI (a), vI ((c : Int))], [], σ) := by
    intro n
    induction n using Nat.strongRecOn with
    | _ n ih =>
    intro c a b hn a0 a1 hq
    refine r_iload k_61_20 rfl ?_
    refine r_const k_61_22 ?_
    refine r_ic_ge k_61_23 (fun h23 => ?_) (fun h23 => ?_)
    · skip
      refine r_const k_61_51 ?_
      refine r_iret k_61_52 ?_
      have e : n = 0 := by omega
      subst e
      exact hq
    · skip
      refine r_iload k_61_26 rfl ?_
      refine r_iload k_61_27 rfl ?_
      refine r_bin (v := (zbin 6 s (c : Int))) k_61_29 rfl ?_
      refine r_const k_61_30 ?_
      refine r_bin (v := (zbt s c)) k_61_31 rfl ?_
      refine r_if_eq k_61_32 (fun h32 => ?_) (fun h32 => ?_)
      · skip
        refine r_iinc (v := (c : Int) + 1) (L' := [vI (s), vI (lot), vI (b), vI (a), vI ((c : Int) + 1)]) k_61_45 rfl (zb_add ⟨by omega, by omega⟩) rfl ?_
        refine r_goto k_61_48 ?_
        obtain ⟨n2, rfl⟩ : ∃ n2, n = n2 + 1 := ⟨n - 1, by omega⟩
        rw [zdx] at hq
        rw [if_pos (by omega)] at hq
        exact ih n2 (by omega) (c + 1) _ _ (by omega) (by omega) (by omega) hq
      · skip
        refine r_iload k_61_35 rfl ?_
        refine r_if_ne k_61_36 (fun h36 => ?_) (fun h36 => ?_)
        · skip
          refine r_iinc (v := a - 1) (L' := [vI (s), vI (lot), vI (b), vI (a - 1), vI ((c : Int))]) k_61_42 rfl (by rw [zb_add ⟨by omega, by omega⟩]; omega) rfl ?_
          refine r_iinc (v := (c : Int) + 1) (L' := [vI (s), vI (lot), vI (b), vI (a - 1), vI ((c : Int) + 1)]) k_61_45 rfl (zb_add ⟨by omega, by omega⟩) rfl ?_
          refine r_goto k_61_48 ?_
          obtain ⟨n2, rfl⟩ : ∃ n2, n = n2 + 1 := ⟨n - 1, by omega⟩
          rw [zdx] at hq
          rw [if_neg (by omega), if_neg (by omega)] at hq
          exact ih n2 (by omega) (c + 1) _ _ (by omega) (by omega) (by omega) hq
        · skip
          refine r_iload k_61_39 rfl ?_
          refine r_iret k_61_41 ?_
          obtain ⟨n2, rfl⟩ : ∃ n2, n = n2 + 1 := ⟨n - 1, by omega⟩
          rw [zdx, if_neg (by omega), if_pos (by omega)] at hq
          exact hq
  show zG (d + 1) 61 K 0 zfx (0, [vI (s), vI (lot), vU, vU, vU], [], σ)
  refine r_iload k_61_0 rfl ?_
  refine r_call (as := [vI (s)]) (r := []) k_61_1 rfl rfl rfl ?_
  refine j_bits hs ?_
  have hpb := zpc_b hs
  have hp0 : zpc s ≠ 0 := fun q => h0 ((zpc_0 hs).mp q)
  refine r_istore (L' := [vI (s), vI (lot), vI ((zpc s)), vU, vU]) k_61_4 rfl ?_
  refine r_iload k_61_5 rfl ?_
  refine r_if_ne k_61_6 (fun _ => ?_) (fun hz => absurd hz (by omega))
  refine r_iload k_61_13 rfl ?_
  refine r_iload k_61_14 rfl ?_
  refine r_rem (v := lot % ((zpc s))) k_61_15 (by omega) (zd_rem (by omega) ⟨by omega, by omega⟩ (by omega) ⟨by omega, by omega⟩) ?_
  refine r_istore (L' := [vI (s), vI (lot), vI ((zpc s)), vI (lot % ((zpc s))), vU]) k_61_16 rfl ?_
  refine r_const k_61_17 ?_
  refine r_istore (L' := [vI (s), vI (lot), vI ((zpc s)), vI (lot % ((zpc s))), vI (0)]) k_61_18 rfl ?_
  exact lp 4 0 _ _ (by omega) (Int.emod_nonneg _ hp0) (by have := Int.emod_lt_of_pos lot (show 0 < zpc s by omega); omega) q1
theorem v_opene {d : Nat} {σ : zM} {K : zM → Option zV → Prop} {C : Nat} {law least : Int} {l : List Int} {x : Int} (hx : x = l.length) (hb : zbd C law least) (hw : zrl σ C law least) (hz : zis σ 0 l) (hc : zcol l) (hl : l.length ≤ 48) (q1 : ∀ τ, zfr [2] [2] σ τ → K τ (some (vI (zmay C law least l)))) : zC (d + 5) 40 [vR 0, vI x] σ K := by
  subst hx
  exact v_open hb hw hz hc hl (Nat.le_refl _) (fun τ f => by rw [List.take_length]; exact q1 τ f)
theorem x_lots {d : Nat} {σ : zM} {K : zM → Option zV → Prop} {C : Nat} {law least draw : Int} {l : List Int} {p : Nat → Int} (hg : zgd C law least draw l p) (hx : zXn σ C law least draw l p) {n : Int} (q1 : ¬ (1 ≤ n ∧ n ≤ 48) → K σ (some (vI (-1)))) (q2 : 1 ≤ n → n ≤ 48 → 48 < (l.length : Int) + n → K σ (some (vI (-3)))) (q3 : ∀ m : Nat, n = m → 1 ≤ m → l.length + m ≤ 48 → (∀ υ, zfr [0, 2, 10] [0, 2] σ υ → zXn υ C law least (zlo C law least m l draw).2 (zlo C law least m l draw).1 p → zgd C law least (zlo C law least m l draw).2 (zlo C law least m l draw).1 p → K υ (some (vI (((zlo C law least m l draw).1.length : Int) - (l.length : Int)))))) : zC (d + 5 + 1) 60 [vR (0), vI (n)] σ K := by
  have hl := hg.2.2.1
  have hb := hg.1
  have hC := hg.1.1
  have hC4 := hg.1.2.1
  refine zC_in rfl ?_
  have lp : ∀ (m : Nat) (N k : Nat) (a : List Int) (dr : Int) (τ : zM), k + m = N → n = N → N ≤ 48 → a.length = l.length + k → a.length + m ≤ 48 → zgd C law least dr a p → zXn τ C law least dr a p → zfr [0, 2, 10] [0, 2] σ τ → (∀ υ, zfr [0, 2, 10] [0, 2] σ υ → zXn υ C law least (zlo C law least m a dr).2 (zlo C law least m a dr).1 p → zgd C law least (zlo C law least m a dr).2 (zlo C law least m a dr).1 p → K υ (some (vI (((zlo C law least m a dr).1.length : Int) - (l.length : Int))))) → zG (d + 5) 60 K 0 zfx (50, [vR (0), vI (n), vI ((k : Int)), vI ((zmay C law least a))], [], τ) := by
    intro m
    induction m using Nat.strongRecOn with
    | _ m ih =>
    intro N k a dr τ hm hN n48 hal ham hga xa F1 hq
    refine r_iload k_60_50 rfl ?_
    refine r_iload k_60_51 rfl ?_
    refine r_ic_ge k_60_52 (fun h52 => ?_) (fun h52 => ?_)
    · skip
      refine r_iload k_60_128 rfl ?_
      refine r_iret k_60_129 ?_
      have e : m = 0 := by omega
      subst e
      exact zKe (hq _ F1 xa hga) (by show (a.length : Int) - (l.length : Int) = _; omega)
    · skip
      refine r_iload k_60_55 rfl ?_
      refine r_if_eq k_60_56 (fun h56 => ?_) (fun h56 => ?_)
      · skip
        refine r_iload k_60_128 rfl ?_
        refine r_iret k_60_129 ?_
        have e : (zlo C law least m a dr) = (a, dr) := by
          cases m with
          | zero => rfl
          | succ m => exact if_pos (by omega)
        rw [e] at hq
        exact zKe (hq _ F1 xa hga) (by show (a.length : Int) - (l.length : Int) = _; omega)
      · skip
        refine r_aload k_60_59 rfl ?_
        refine r_getR (q := 1) k_60_60 ⟨rfl, rfl⟩ ?_
        refine r_aload k_60_63 rfl ?_
        refine r_getR (q := 1) k_60_64 ⟨rfl, rfl⟩ ?_
        refine r_getS (v := dr) k_60_67 ⟨rfl, rfl⟩ xa.2.2.2 ?_
        refine r_const k_60_70 ?_
        refine r_bin (v := (zbin 2 dr 1103515245)) k_60_72 rfl ?_
        refine r_const k_60_73 ?_
        refine r_bin (v := (zbin 0 (zbin 2 dr 1103515245) 12345)) k_60_76 rfl ?_
        refine r_const k_60_77 ?_
        refine r_bin (v := (zdn dr)) k_60_79 (zdn_x dr) ?_
        refine r_putS k_60_80 ⟨rfl, rfl⟩ ?_
        refine r_aload k_60_83 rfl ?_
        refine r_getR (q := 1) k_60_84 ⟨rfl, rfl⟩ ?_
        refine r_getR (q := 2) k_60_87 ⟨rfl, rfl⟩ ?_
        refine r_iload k_60_90 rfl ?_
        refine r_aload k_60_91 rfl ?_
        refine r_getR (q := 1) k_60_92 ⟨rfl, rfl⟩ ?_
        refine r_getS (v := (zdn dr)) k_60_95 ⟨rfl, rfl⟩ (by simp [zsetS, zsetA, zup, zupA, zcpy]) ?_
        refine r_const k_60_98 ?_
        refine r_div (v := (zdn dr / 65536)) k_60_100 (by omega) (zd_div (by have := zdn_b dr; omega) ⟨by have := zdn_b dr; omega, by have := zdn_b dr; omega⟩ (by omega) ⟨by omega, by omega⟩) ?_
        refine r_call (as := [vI ((zmay C law least a)), vI ((zdn dr / 65536))]) (r := [vR (2)]) k_60_101 rfl rfl rfl ?_
        have h15 := zmay_15 (law := law) (least := least) (l := a) (C := C) (by omega)
        have hdb := zdn_b dr
        refine s_drawn h15 (by omega) (by omega) (by omega) ?_
        have hgn := zgd_next hga (by omega) (by omega)
        refine r_call (as := [vR (2), vI ((zdc C law least a dr))]) (r := []) k_60_104 rfl rfl rfl ?_
        have z2 : zis (zsetS τ 10 ((zdn dr))) 0 a := ⟨xa.2.1.1, xa.2.1.2⟩
        refine v_add (r := 0) (l := a) (c := zdc C law least a dr) (by decide) z2 (by omega) (fun τ3 f3 z3 => ?_)
        have f3b : zfr [0, 10] [0] τ τ3 := zfr_tr (zfr_S (S := [10]) (A := []) zfr_rf (by decide)) f3 (by decide) (by decide)
        have x3 : zXn τ3 C law least (zdn dr) (a ++ [zdc C law least a dr]) p := ⟨zrl_fr xa.1 f3b (by decide), z3, zpr_fr xa.2.2.1 f3b (by decide), (f3.1 10 (by decide)).trans (zS_1 _ _ _)⟩
        have F3 : zfr [0, 2, 10] [0, 2] σ τ3 := zfr_2 F1 f3b (by decide) (by decide)
        have e3 : τ3.1 0 = (a.length : Int) + 1 := by rw [z3.1, zlen1]; rfl
        refine r_iinc (v := (k : Int) + 1) (L' := [vR (0), vI (n), vI ((k : Int) + 1), vI ((zmay C law least a))]) k_60_107 rfl (zb_add ⟨by omega, by omega⟩) rfl ?_
        refine r_aload k_60_110 rfl ?_
        refine r_aload k_60_111 rfl ?_
        refine r_getR (q := 1) k_60_112 ⟨rfl, rfl⟩ ?_
        refine r_getR (q := 2) k_60_115 ⟨rfl, rfl⟩ ?_
        refine r_getS (v := ((a.length : Int) + 1)) k_60_118 ⟨rfl, rfl⟩ e3 ?_
        refine r_call (as := [vR (0), vI (((a.length : Int) + 1))]) (r := []) k_60_121 rfl rfl rfl ?_
        refine v_opene (l := a ++ [zdc C law least a dr]) (by rw [zlen1]; omega) hg.1 x3.1 x3.2.1 (zgd_c hgn.1) (by rw [zlen1]; omega) (fun τ4 f4 => ?_)
        have x4 := zXn_fr x3 f4 (by decide) (by decide)
        have F4 : zfr [0, 2, 10] [0, 2] σ τ4 := zfr_tr F3 f4 (by decide) (by decide)
        refine r_istore (L' := [vR (0), vI (n), vI ((k : Int) + 1), vI ((zmay C law least (a ++ [zdc C law least a dr])))]) k_60_124 rfl ?_
        refine r_goto k_60_125 ?_
        obtain ⟨m2, rfl⟩ : ∃ m2, m = m2 + 1 := ⟨m - 1, by omega⟩
        have e : zlo C law least (m2 + 1) a dr = zlo C law least m2 (a ++ [zdc C law least a dr]) (zdn dr) := if_neg (by omega)
        rw [e] at hq
        exact ih m2 (by omega) N (k + 1) (a ++ [zdc C law least a dr]) (zdn dr) _ (by omega) hN n48 (by rw [zlen1]; omega) (by rw [zlen1]; omega) hgn.1 x4 F4 hq
  show zG (d + 5) 60 K 0 zfx (0, [vR (0), vI (n), vU, vU], [], σ)
  refine r_iload k_60_0 rfl ?_
  refine r_const k_60_1 ?_
  refine r_ic_lt k_60_2 (fun h2 => ?_) (fun h2 => ?_)
  · skip
    refine r_const k_60_11 ?_
    refine r_iret k_60_12 ?_
    exact q1 (by omega)
  · skip
    refine r_iload k_60_5 rfl ?_
    refine r_const k_60_6 ?_
    refine r_ic_le k_60_8 (fun h8 => ?_) (fun h8 => ?_)
    · skip
      refine r_aload k_60_13 rfl ?_
      refine r_getR (q := 1) k_60_14 ⟨rfl, rfl⟩ ?_
      refine r_getR (q := 2) k_60_17 ⟨rfl, rfl⟩ ?_
      refine r_getS (v := (l.length : Int)) k_60_20 ⟨rfl, rfl⟩ hx.2.1.1 ?_
      refine r_const k_60_23 ?_
      refine r_iload k_60_25 rfl ?_
      refine r_bin (v := 48 - n) k_60_26 (zb_sub ⟨by omega, by omega⟩) ?_
      refine r_ic_le k_60_27 (fun h27 => ?_) (fun h27 => ?_)
      · skip
        refine r_const k_60_33 ?_
        refine r_istore (L' := [vR (0), vI (n), vI (0), vU]) k_60_34 rfl ?_
        refine r_aload k_60_35 rfl ?_
        refine r_aload k_60_36 rfl ?_
        refine r_getR (q := 1) k_60_37 ⟨rfl, rfl⟩ ?_
        refine r_getR (q := 2) k_60_40 ⟨rfl, rfl⟩ ?_
        refine r_getS (v := (l.length : Int)) k_60_43 ⟨rfl, rfl⟩ hx.2.1.1 ?_
        refine r_call (as := [vR (0), vI ((l.length : Int))]) (r := []) k_60_46 rfl rfl rfl ?_
        refine v_opene rfl hg.1 hx.1 hx.2.1 (zgd_c hg) hl (fun τ1 f1 => ?_)
        have x1 : zXn τ1 C law least draw l p := zXn_fr hx f1 (by decide) (by decide)
        have F1 : zfr [0, 2, 10] [0, 2] σ τ1 := zfr_w f1 (by decide) (by decide)
        refine r_istore (L' := [vR (0), vI (n), vI (0), vI ((zmay C law least l))]) k_60_49 rfl ?_
        obtain ⟨N, hN⟩ : ∃ N : Nat, n = N := ⟨n.toNat, by omega⟩
        exact lp N N 0 l draw _ (by omega) hN (by omega) (by omega) (by omega) hg x1 F1 (q3 N hN (by omega) (by omega))
      · skip
        refine r_const k_60_30 ?_
        refine r_iret k_60_32 ?_
        exact q2 (by omega) (by omega) (by omega)
    · skip
      refine r_const k_60_11 ?_
      refine r_iret k_60_12 ?_
      exact q1 (by omega)
theorem zYn_3 {a : Nat → Int} {C : Nat} {law least draw v : Int} {l : List Int} {p : Nat → Int} (h : zYn a C law least draw l p) : zYn (zup a 3 v) C law least v l p := by
  obtain ⟨a0, a1, a2, a3, a4, a5, a6⟩ := h
  exact ⟨a0, a1, a2, rfl, a4, fun k hk => by rw [zup_n (by omega)]; exact a5 k hk, fun k hk => by rw [zup_n (by omega)]; exact a6 k hk⟩
theorem y_lot {d : Nat} {K : zM → Option zV → Prop} {n s : Int} {k : Int} (hs : 0 ≤ s ∧ s < 16) {τ : zM} {r : Nat} : ∀ (m c : Nat) (a : Int), c + m ≤ 7 → -(c : Int) ≤ a → a ≤ 8 → zdy s m c a = some r → (∀ b : Int, zG d 115 K 0 zfx (122, [vR 27, vI n, vI k, vI s, vI b, vI (r : Int)], [], τ)) → zG d 115 K 0 zfx (91, [vR 27, vI n, vI k, vI s, vI a, vI (c : Int)], [], τ)
  | 0, _, _, _, _, _, h, _ => by cases h
  | m + 1, c, a, hm, a0, a8, h, hq => by
    have hbt := zbt_01 hs (c := c) (by omega)
    rw [zdy] at h
    refine r_iload k_115_91 rfl ?_
    refine r_iload k_115_92 rfl ?_
    refine r_bin (v := (zbin 6 s (c : Int))) k_115_94 rfl ?_
    refine r_const k_115_95 ?_
    refine r_bin (v := (zbt s c)) k_115_96 rfl ?_
    refine r_if_eq k_115_97 (fun h97 => ?_) (fun h97 => ?_)
    · skip
      refine r_iload k_115_105 rfl ?_
      refine r_iload k_115_107 rfl ?_
      refine r_iload k_115_108 rfl ?_
      refine r_bin (v := (zbin 6 s (c : Int))) k_115_110 rfl ?_
      refine r_const k_115_111 ?_
      refine r_bin (v := (zbt s c)) k_115_112 rfl ?_
      refine r_bin (v := a - ((zbt s c))) k_115_113 (zb_sub ⟨by omega, by omega⟩) ?_
      refine r_istore (L' := [vR (27), vI (n), vI (k), vI (s), vI (a - ((zbt s c))), vI ((c : Int))]) k_115_114 rfl ?_
      refine r_iinc (v := (c : Int) + 1) (L' := [vR (27), vI (n), vI (k), vI (s), vI (a - ((zbt s c))), vI ((c : Int) + 1)]) k_115_116 rfl (zb_add ⟨by omega, by omega⟩) rfl ?_
      refine r_goto k_115_119 ?_
      rw [if_pos (by omega)] at h
      exact y_lot hs m (c + 1) _ (by omega) (by omega) (by omega) h hq
    · skip
      refine r_iload k_115_100 rfl ?_
      refine r_if_le k_115_102 (fun h102 => ?_) (fun h102 => ?_)
      · skip
        rw [if_neg (by omega)] at h
        obtain rfl := Option.some.inj h
        exact hq _
      · skip
        refine r_iload k_115_105 rfl ?_
        refine r_iload k_115_107 rfl ?_
        refine r_iload k_115_108 rfl ?_
        refine r_bin (v := (zbin 6 s (c : Int))) k_115_110 rfl ?_
        refine r_const k_115_111 ?_
        refine r_bin (v := (zbt s c)) k_115_112 rfl ?_
        refine r_bin (v := a - ((zbt s c))) k_115_113 (zb_sub ⟨by omega, by omega⟩) ?_
        refine r_istore (L' := [vR (27), vI (n), vI (k), vI (s), vI (a - ((zbt s c))), vI ((c : Int))]) k_115_114 rfl ?_
        refine r_iinc (v := (c : Int) + 1) (L' := [vR (27), vI (n), vI (k), vI (s), vI (a - ((zbt s c))), vI ((c : Int) + 1)]) k_115_116 rfl (zb_add ⟨by omega, by omega⟩) rfl ?_
        refine r_goto k_115_119 ?_
        rw [if_pos (by omega)] at h
        exact y_lot hs m (c + 1) _ (by omega) (by omega) (by omega) h hq
theorem y_lots {d : Nat} {σ : zM} {K : zM → Option zV → Prop} {C : Nat} {law least draw : Int} {l : List Int} {p : Nat → Int} (hg : zgd C law least draw l p) (hy : zYn (σ.2 12) C law least draw l p) {n : Int} (q1 : ¬ (1 ≤ n ∧ n ≤ 48) → K σ (some (vI (-1)))) (q2 : 1 ≤ n → n ≤ 48 → 48 < (l.length : Int) + n → K σ (some (vI (-3)))) (q3 : ∀ m : Nat, n = m → 1 ≤ m → l.length + m ≤ 48 → (∀ υ, zfr [] [12, 18, 19] σ υ → zYn (υ.2 12) C law least (zlo C law least m l draw).2 (zlo C law least m l draw).1 p → zgd C law least (zlo C law least m l draw).2 (zlo C law least m l draw).1 p → K υ (some (vI (((zlo C law least m l draw).1.length : Int) - (l.length : Int)))))) : zC (d + 5 + 1) 115 [vR (27), vI (n)] σ K := by
  have hl := hg.2.2.1
  have hb := hg.1
  have hC := hg.1.1
  have hC4 := hg.1.2.1
  refine zC_in rfl ?_
  have lp : ∀ (m : Nat) (N k : Nat) (a : List Int) (dr : Int) (τ : zM), k + m = N → n = N → N ≤ 48 → a.length = l.length + k → a.length + m ≤ 48 → zgd C law least dr a p → zYn (τ.2 12) C law least dr a p → zfr [] [12, 18, 19] σ τ → (∀ υ, zfr [] [12, 18, 19] σ υ → zYn (υ.2 12) C law least (zlo C law least m a dr).2 (zlo C law least m a dr).1 p → zgd C law least (zlo C law least m a dr).2 (zlo C law least m a dr).1 p → K υ (some (vI (((zlo C law least m a dr).1.length : Int) - (l.length : Int))))) → zG (d + 5) 115 K 0 zfx (37, [vR (27), vI (n), vI ((k : Int)), vI ((zmay C law least a)), vU, vU], [], τ) := by
    intro m
    induction m using Nat.strongRecOn with
    | _ m ih =>
    intro N k a dr τ hm hN n48 hal ham hga xa F1 hq
    refine r_iload k_115_37 rfl ?_
    refine r_iload k_115_38 rfl ?_
    refine r_ic_ge k_115_39 (fun h39 => ?_) (fun h39 => ?_)
    · skip
      refine r_iload k_115_159 rfl ?_
      refine r_iret k_115_160 ?_
      have e : m = 0 := by omega
      subst e
      exact zKe (hq _ F1 xa hga) (by show (a.length : Int) - (l.length : Int) = _; omega)
    · skip
      refine r_iload k_115_42 rfl ?_
      refine r_if_eq k_115_43 (fun h43 => ?_) (fun h43 => ?_)
      · skip
        refine r_iload k_115_159 rfl ?_
        refine r_iret k_115_160 ?_
        have e : (zlo C law least m a dr) = (a, dr) := by
          cases m with
          | zero => rfl
          | succ m => exact if_pos (by omega)
        rw [e] at hq
        exact zKe (hq _ F1 xa hga) (by show (a.length : Int) - (l.length : Int) = _; omega)
      · skip
        refine r_aload k_115_46 rfl ?_
        refine r_getR (q := 28) k_115_47 ⟨rfl, rfl⟩ ?_
        refine r_const k_115_50 ?_
        refine r_aload k_115_51 rfl ?_
        refine r_getR (q := 28) k_115_52 ⟨rfl, rfl⟩ ?_
        refine r_const k_115_55 ?_
        refine r_iald (v := dr) k_115_56 ⟨rfl, rfl⟩ ⟨by decide, by decide⟩ xa.2.2.2.1 ?_
        refine r_cnv (w := vL (dr)) k_115_57 rfl ?_
        refine r_lconst k_115_58 ?_
        refine r_lbin (v := (dr * 1103515245)) k_115_61 (zl_mul ⟨by have := hga.2.1; omega, by have := hga.2.1; omega⟩) ?_
        refine r_lconst k_115_62 ?_
        refine r_lbin (v := (dr * 1103515245 + 12345)) k_115_65 (zl_add ⟨by have := hga.2.1; omega, by have := hga.2.1; omega⟩) ?_
        refine r_lconst k_115_66 ?_
        refine r_lbin (v := (zdn dr)) k_115_69 (zland31 _) ?_
        refine r_cnv (w := vI ((zdn dr))) k_115_70 (by rw [show zcnv 1 (vL (zdn dr)) = some (vI (Int64.ofInt (zdn dr)).toInt32.toInt) from rfl, zsm31 (zdn_b dr)]) ?_
        refine r_iast k_115_71 ⟨rfl, rfl⟩ ⟨by decide, by decide⟩ ?_
        refine r_aload k_115_72 rfl ?_
        refine r_getR (q := 28) k_115_73 ⟨rfl, rfl⟩ ?_
        refine r_const k_115_76 ?_
        refine r_iald (v := (zdn dr)) k_115_77 ⟨rfl, rfl⟩ ⟨by decide, by decide⟩ (by rw [zA_2]; exact zup_1 _ _ _) ?_
        refine r_const k_115_78 ?_
        refine r_div (v := (zdn dr / 65536)) k_115_80 (by omega) (zd_div (by have := zdn_b dr; omega) ⟨by have := zdn_b dr; omega, by have := zdn_b dr; omega⟩ (by omega) ⟨by omega, by omega⟩) ?_
        refine r_iload k_115_81 rfl ?_
        refine r_call (as := [vI ((zmay C law least a))]) (r := [vI ((zdn dr / 65536))]) k_115_82 rfl rfl rfl ?_
        have h15 := zmay_15 (law := law) (least := least) (l := a) (C := C) (by omega)
        have hdb := zdn_b dr
        have hpb := zpc_b h15
        have hp0 : zpc (zmay C law least a) ≠ 0 := fun q => absurd ((zpc_0 h15).mp q) (by omega)
        have hgn := zgd_next hga (by omega) (by omega)
        obtain ⟨τ8, e8⟩ : ∃ τ8, τ8 = zsetA τ 12 (zup (τ.2 12) (3 : Int).toNat ((zdn dr))) := ⟨_, rfl⟩
        rw [← e8]
        have F8 : zfr [] [12, 18, 19] σ τ8 := by rw [e8]; exact zfr_A F1 (by decide)
        have x8 : zYn (τ8.2 12) C law least (zdn dr) a p := by rw [e8, zA_2]; exact zYn_3 xa
        refine y_bits h15 ?_
        refine r_rem (v := (zdn dr / 65536 % zpc (zmay C law least a))) k_115_85 (by omega) (zd_rem (by omega) ⟨by omega, by omega⟩ (by omega) ⟨by omega, by omega⟩) ?_
        refine r_istore (L' := [vR (27), vI (n), vI ((k : Int)), vI ((zmay C law least a)), vI ((zdn dr / 65536 % zpc (zmay C law least a))), vU]) k_115_86 rfl ?_
        refine r_const k_115_88 ?_
        refine r_istore (L' := [vR (27), vI (n), vI ((k : Int)), vI ((zmay C law least a)), vI ((zdn dr / 65536 % zpc (zmay C law least a))), vI (0)]) k_115_89 rfl ?_
        refine y_lot h15 (r := (zdc C law least a dr).toNat) 5 0 _ (by omega) (by have := Int.emod_nonneg (zdn dr / 65536) hp0; omega) (by have := Int.emod_lt_of_pos (zdn dr / 65536) (show 0 < zpc (zmay C law least a) by omega); omega) hgn.2.1 (fun b => ?_)
        refine r_aload k_115_122 rfl ?_
        refine r_getR (q := 28) k_115_123 ⟨rfl, rfl⟩ ?_
        refine r_const k_115_126 ?_
        refine r_aload k_115_128 rfl ?_
        refine r_getR (q := 28) k_115_129 ⟨rfl, rfl⟩ ?_
        refine r_const k_115_132 ?_
        refine r_iald (v := (a.length : Int)) k_115_133 ⟨rfl, rfl⟩ ⟨by decide, by decide⟩ x8.2.2.2.2.1 ?_
        refine r_bin (v := 9 + ((a.length : Int))) k_115_134 (zb_add ⟨by omega, by omega⟩) ?_
        refine r_iload k_115_135 rfl ?_
        refine r_iast k_115_137 ⟨rfl, rfl⟩ ⟨by omega, by omega⟩ ?_
        refine r_aload k_115_138 rfl ?_
        refine r_getR (q := 28) k_115_139 ⟨rfl, rfl⟩ ?_
        refine r_const k_115_142 ?_
        refine r_dup2 k_115_143 ?_
        refine r_iald (v := (a.length : Int)) k_115_144 ⟨rfl, rfl⟩ ⟨by decide, by decide⟩ (by rw [zA_2, show (4 : Int).toNat = 4 from rfl, zup_n (by omega)]; exact x8.2.2.2.2.1) ?_
        refine r_const k_115_145 ?_
        refine r_bin (v := (a.length : Int) + 1) k_115_146 (zb_add ⟨by omega, by omega⟩) ?_
        refine r_iast k_115_147 ⟨rfl, rfl⟩ ⟨by decide, by decide⟩ ?_
        refine r_iinc (v := (k : Int) + 1) (L' := [vR (27), vI (n), vI ((k : Int) + 1), vI ((zmay C law least a)), vI (b), vI (((zdc C law least a dr).toNat : Int))]) k_115_148 rfl (zb_add ⟨by omega, by omega⟩) rfl ?_
        refine r_aload k_115_151 rfl ?_
        refine r_call (as := [vR (27)]) (r := []) k_115_152 rfl rfl rfl ?_
        have hrc : (((zdc C law least a dr).toNat : Nat) : Int) = zdc C law least a dr := by omega
        obtain ⟨τ3, e3⟩ : ∃ τ3, τ3 = zsetA (zsetA τ8 12 (zup (τ8.2 12) ((9 : Int) + (a.length : Int)).toNat ((zdc C law least a dr).toNat : Int))) 12 (zup ((zsetA τ8 12 (zup (τ8.2 12) ((9 : Int) + (a.length : Int)).toNat ((zdc C law least a dr).toNat : Int))).2 12) (4 : Int).toNat ((a.length : Int) + 1)) := ⟨_, rfl⟩
        rw [← e3]
        have F3 : zfr [] [12, 18, 19] σ τ3 := by rw [e3]; exact zfr_A (zfr_A F8 (by decide)) (by decide)
        have x3 : zYn (τ3.2 12) C law least (zdn dr) (a ++ [zdc C law least a dr]) p := by rw [e3, hrc, zA_2, zA_2, show ((9 : Int) + (a.length : Int)).toNat = 9 + a.length by omega]; exact zYn_add x8
        refine y_may hgn.1 x3 (fun τ4 f4 => ?_)
        have x4 : zYn (τ4.2 12) C law least (zdn dr) (a ++ [zdc C law least a dr]) p := by rw [f4.2 12 (by decide)]; exact x3
        have F4 : zfr [] [12, 18, 19] σ τ4 := zfr_tr F3 f4 (by decide) (by decide)
        refine r_istore (L' := [vR (27), vI (n), vI ((k : Int) + 1), vI ((zmay C law least (a ++ [zdc C law least a dr]))), vI (b), vI (((zdc C law least a dr).toNat : Int))]) k_115_155 rfl ?_
        refine r_goto k_115_156 ?_
        refine r_cut (L' := [vR (27), vI (n), vI ((k : Int) + 1), vI ((zmay C law least (a ++ [zdc C law least a dr]))), vU, vU]) 4 rfl ?_
        obtain ⟨m2, rfl⟩ : ∃ m2, m = m2 + 1 := ⟨m - 1, by omega⟩
        have e : zlo C law least (m2 + 1) a dr = zlo C law least m2 (a ++ [zdc C law least a dr]) (zdn dr) := if_neg (by omega)
        rw [e] at hq
        exact ih m2 (by omega) N (k + 1) (a ++ [zdc C law least a dr]) (zdn dr) _ (by omega) hN n48 (by rw [zlen1]; omega) (by rw [zlen1]; omega) hgn.1 x4 F4 hq
  show zG (d + 5) 115 K 0 zfx (0, [vR (27), vI (n), vU, vU, vU, vU], [], σ)
  refine r_iload k_115_0 rfl ?_
  refine r_cnv (w := vL (n)) k_115_1 rfl ?_
  refine r_lconst k_115_2 ?_
  refine r_lconst k_115_3 ?_
  refine r_call (as := [vL (n), vL (1), vL (48)]) (r := []) k_115_6 rfl rfl rfl ?_
  refine t_in (fun g6 => ?_) (fun g6 => ?_)
  · skip
    refine r_if_ne k_115_9 (fun _ => ?_) (fun hz => absurd hz (by decide))
    refine r_aload k_115_14 rfl ?_
    refine r_getR (q := 28) k_115_15 ⟨rfl, rfl⟩ ?_
    refine r_const k_115_18 ?_
    refine r_iald (v := (l.length : Int)) k_115_19 ⟨rfl, rfl⟩ ⟨by decide, by decide⟩ hy.2.2.2.2.1 ?_
    refine r_iload k_115_20 rfl ?_
    refine r_bin (v := (l.length : Int) + n) k_115_21 (zb_add ⟨by omega, by omega⟩) ?_
    refine r_const k_115_22 ?_
    refine r_ic_le k_115_24 (fun h24 => ?_) (fun h24 => ?_)
    · skip
      refine r_const k_115_30 ?_
      refine r_istore (L' := [vR (27), vI (n), vI (0), vU, vU, vU]) k_115_31 rfl ?_
      refine r_aload k_115_32 rfl ?_
      refine r_call (as := [vR (27)]) (r := []) k_115_33 rfl rfl rfl ?_
      refine y_may hg hy (fun τ1 f1 => ?_)
      have x1 : zYn (τ1.2 12) C law least draw l p := by rw [f1.2 12 (by decide)]; exact hy
      have F1 : zfr [] [12, 18, 19] σ τ1 := zfr_w f1 (by decide) (by decide)
      refine r_istore (L' := [vR (27), vI (n), vI (0), vI ((zmay C law least l)), vU, vU]) k_115_36 rfl ?_
      obtain ⟨N, hN⟩ : ∃ N : Nat, n = N := ⟨n.toNat, by omega⟩
      exact lp N N 0 l draw _ (by omega) hN (by omega) (by omega) (by omega) hg x1 F1 (q3 N hN (by omega) (by omega))
    · skip
      refine r_const k_115_27 ?_
      refine r_iret k_115_29 ?_
      exact q2 (by omega) (by omega) (by omega)
  · skip
    refine r_if_ne k_115_9 (fun hz => absurd hz (by decide)) (fun _ => ?_)
    refine r_const k_115_12 ?_
    refine r_iret k_115_13 ?_
    exact q1 (by omega)
theorem p_lots {d : Nat} {σ : zM} (h : zInv σ) {n : Int} : zC (d + 41) 60 [vR 0, vI n] σ (fun σ1 r1 => zC (d + 6) 115 [vR 27, vI n] σ1 (zpq σ1 r1)) := by
  obtain ⟨C, law, least, draw, l, p, hg, hx, hy⟩ := h.1
  refine x_lots (d := d + 35) hg hx (fun q => y_lots hg hy (fun _ => ⟨⟨_, rfl, rfl⟩, h⟩) (fun a b _ => absurd ⟨a, b⟩ q) (fun m e1 e2 e3 => absurd ⟨by omega, by omega⟩ q)) (fun a b c => y_lots hg hy (fun q => absurd ⟨a, b⟩ q) (fun _ _ _ => ⟨⟨_, rfl, rfl⟩, h⟩) (fun m e1 e2 e3 => absurd c (by omega))) (fun m e1 e2 e3 τ f x2 g2 => ?_)
  have hy2 : zYn (τ.2 12) C law least draw l p := by rw [f.2 12 (by decide)]; exact hy
  refine y_lots hg hy2 (fun q => absurd ⟨by omega, by omega⟩ q) (fun a b c => absurd c (by omega)) (fun m2 e4 _ _ υ f2 y2 g3 => ?_)
  obtain rfl : m2 = m := by omega
  have F : zfr [0, 2, 10] [0, 2, 12, 18, 19] σ υ := zfr_tr f f2 (by decide) (by decide)
  exact ⟨⟨_, rfl, rfl⟩, ⟨C, law, least, (zlo C law least m2 l draw).2, (zlo C law least m2 l draw).1, p, g2, zXn_fr x2 f2 (by decide) (by decide), y2⟩, zOth_fr h.2 F (by decide) (by decide)⟩
