/-! all rows in order: the reference's goesOn -/
/-- all lawful rows behind a lawful l, m more, in order -/
def zenu (C : Nat) (law least : Int) : Nat → List Int → List (List Int)
  | 0, l => [l]
  | m + 1, l => zmcC (zok law least l) (fun c => zenu C law least m (l ++ [(c : Int)])) C 0
/-- those behind the row whose reverse is given, m being open below it -/
def zbk (C : Nat) (law least : Int) : Nat → List Int → List (List Int)
  | _, [] => []
  | m, x :: r => zmcC (zok law least r.reverse) (fun c => zenu C law least m (r.reverse ++ [(c : Int)])) (C - (x.toNat + 1)) (x.toNat + 1) ++ zbk C law least (m + 1) r
theorem zmcC_t {H : Nat → Bool} {F : Nat → List (List Int)} {n c : Nat} (h : H c = true) : zmcC H F (n + 1) c = F c ++ zmcC H F n (c + 1) := by rw [zmcC, if_pos h]
theorem zmcC_f {H : Nat → Bool} {F : Nat → List (List Int)} {n c : Nat} (h : ¬ H c = true) : zmcC H F (n + 1) c = zmcC H F n (c + 1) := by rw [zmcC, if_neg h]; rfl
/-- the row that comes next, and what is left behind it -/
theorem zenu_next {C : Nat} {law least : Int} : ∀ (m n c : Nat) (l : List Int), c + n = C → zmcC (zok law least l) (fun c => zenu C law least m (l ++ [(c : Int)])) n c = [] ∨ ∃ q R, zmcC (zok law least l) (fun c => zenu C law least m (l ++ [(c : Int)])) n c = q :: R ∧ q.length = l.length + m + 1 ∧ (zcol l → C ≤ 4 → zcol q) ∧ R ++ zbk C law least (m + 1) l.reverse = zbk C law least 0 q.reverse := by
  intro m
  induction m with
  | zero =>
    intro n
    induction n with
    | zero => intro c l h; exact Or.inl rfl
    | succ n ih =>
      intro c l h
      by_cases hk : zok law least l c = true
      · refine Or.inr ⟨l ++ [(c : Int)], zmcC (zok law least l) (fun c => zenu C law least 0 (l ++ [(c : Int)])) n (c + 1), ?_, by rw [zlen1], fun hc hC => zcol_a hc (by omega) (by omega), ?_⟩
        · rw [zmcC_t hk]; rfl
        · rw [List.reverse_append]
          show _ = zmcC (zok law least l.reverse.reverse) (fun c => zenu C law least 0 (l.reverse.reverse ++ [(c : Int)])) (C - (((c : Nat) : Int).toNat + 1)) (((c : Nat) : Int).toNat + 1) ++ zbk C law least 1 l.reverse
          rw [List.reverse_reverse, Int.toNat_natCast, show C - (c + 1) = n by omega]
      · rw [zmcC_f hk]; exact ih (c + 1) l (by omega)
  | succ m ihm =>
    intro n
    induction n with
    | zero => intro c l h; exact Or.inl rfl
    | succ n ih =>
      intro c l h
      by_cases hk : zok law least l c = true
      · rw [zmcC_t hk]
        have hsub := ihm C 0 (l ++ [(c : Int)]) (by omega)
        rcases hsub with hs | ⟨q, R, h1, h2, h3, h4⟩
        · have e : zenu C law least (m + 1) (l ++ [(c : Int)]) = [] := hs
          show (zenu C law least (m + 1) (l ++ [(c : Int)]) ++ zmcC (zok law least l) (fun c => zenu C law least (m + 1) (l ++ [(c : Int)])) n (c + 1)) = [] ∨ ∃ q R, (zenu C law least (m + 1) (l ++ [(c : Int)]) ++ zmcC (zok law least l) (fun c => zenu C law least (m + 1) (l ++ [(c : Int)])) n (c + 1)) = q :: R ∧ _
          rw [e, List.nil_append]
          exact ih (c + 1) l (by omega)
        · have e : zenu C law least (m + 1) (l ++ [(c : Int)]) = q :: R := h1
          refine Or.inr ⟨q, R ++ zmcC (zok law least l) (fun c => zenu C law least (m + 1) (l ++ [(c : Int)])) n (c + 1), ?_, by rw [h2, zlen1]; omega, fun hc hC => h3 (zcol_a hc (by omega) (by omega)) hC, ?_⟩
          · show zenu C law least (m + 1) (l ++ [(c : Int)]) ++ _ = _
            rw [e]; rfl
          · rw [← h4, List.reverse_append, List.append_assoc]
            congr 1
            show _ = zmcC (zok law least l.reverse.reverse) (fun c => zenu C law least (m + 1) (l.reverse.reverse ++ [(c : Int)])) (C - (((c : Nat) : Int).toNat + 1)) (((c : Nat) : Int).toNat + 1) ++ zbk C law least (m + 2) l.reverse
            rw [List.reverse_reverse, Int.toNat_natCast, show C - (c + 1) = n by omega]
      · rw [zmcC_f hk]; exact ih (c + 1) l (by omega)
theorem zrs_up {σ : zM} {l : List Int} {v : Int} {k : Nat} (h : zrs σ l) (hk : l.length ≤ k) : zrs (zsetA σ 18 (zup (σ.2 18) k v)) l := fun j hj => by
  rw [zA_2, zup_n (by omega)]; exact h j hj
theorem zrs_l {σ : zM} {l m : List Int} (h : zrs σ (l ++ m)) : zrs σ l := fun j hj => by rw [h j (by rw [List.length_append]; omega), zlf_l hj]
theorem zrs_e {σ : zM} {l : List Int} {c : Int} (h : zrs σ (l ++ [c])) : σ.2 18 l.length = c := by rw [h _ (by rw [zlen1]; omega), zlf_e]
theorem t_down {d : Nat} {σ : zM} {K : zM → Option zV → Prop} {C : Nat} {law least bg : Int} {N : Nat} (hL : 0 ≤ law ∧ law ≤ 3) (hM : 1 ≤ least ∧ least ≤ 9) (hC : C ≤ 4) (h10 : σ.2 12 0 = (C : Int)) (h12 : σ.2 12 1 = law) (h13 : σ.2 12 2 = least) (hN : N ≤ 40) : ∀ (n m n0 c : Nat) (l : List Int) (τ : zM), m * 5 + n0 = n → l.length + m + 1 = N → c + n0 = C → zcol l → zfr [] [18, 19] σ τ → zrs τ l → τ.2 18 l.length = (c : Int) - 1 → (∀ q R, (zmcC (zok law least l) (fun c => zenu C law least m (l ++ [(c : Int)])) n0 c) = q :: R → ∀ υ, zfr [] [18, 19] σ υ → zrs υ q → K υ (some (vI 1))) → ((zmcC (zok law least l) (fun c => zenu C law least m (l ++ [(c : Int)])) n0 c) = [] → ∀ υ, zfr [] [18, 19] σ υ → zrs υ l → zG (d + 2) 104 K 0 zfx (23, [vR 27, vI N, vI bg, vI ((l.length : Int) - 1)], [], υ)) → zG (d + 2) 104 K 0 zfx (23, [vR 27, vI N, vI bg, vI (l.length : Int)], [], τ) := by
  intro n
  induction n using Nat.strongRecOn with
  | _ n ih =>
  intro m n0 c l τ hn hm hcn hc hf hrs hrow hq hd
  refine r_iload k_104_23 rfl ?_
  refine r_if_lt k_104_24 (fun hz => absurd hz (by omega)) (fun _ => ?_)
  refine r_aload k_104_27 rfl ?_
  refine r_getR (q := 34) k_104_28 ⟨rfl, rfl⟩ ?_
  refine r_iload k_104_31 rfl ?_
  refine r_dup2 k_104_32 ?_
  refine r_iald (v := ((c : Int) - 1)) k_104_33 ⟨rfl, rfl⟩ ⟨by omega, by omega⟩ hrow ?_
  refine r_const k_104_34 ?_
  refine r_bin (v := (c : Int)) k_104_35 (by rw [zb_add ⟨by omega, by omega⟩]; omega) ?_
  refine r_iast k_104_36 ⟨rfl, rfl⟩ ⟨by omega, by omega⟩ ?_
  refine r_aload k_104_37 rfl ?_
  refine r_getR (q := 34) k_104_38 ⟨rfl, rfl⟩ ?_
  refine r_iload k_104_41 rfl ?_
  refine r_iald (v := (c : Int)) k_104_42 ⟨rfl, rfl⟩ ⟨by omega, by omega⟩ (by rw [zA_2]; exact zup_1 _ _ _) ?_
  refine r_aload k_104_43 rfl ?_
  refine r_getR (q := 28) k_104_44 ⟨rfl, rfl⟩ ?_
  refine r_const k_104_47 ?_
  refine r_iald (v := (C : Int)) k_104_48 ⟨rfl, rfl⟩ ⟨by decide, by decide⟩ ((congrFun (hf.2 12 (by decide)) 0).trans h10) ?_
  refine r_ic_lt k_104_49 (fun h49 => ?_) (fun h49 => ?_)
  · skip
    refine r_aload k_104_58 rfl ?_
    refine r_iload k_104_59 rfl ?_
    refine r_const k_104_60 ?_
    refine r_bin (v := (l.length : Int) + 1) k_104_61 (zb_add ⟨by omega, by omega⟩) ?_
    refine r_call (as := [vR (27), vI ((l.length : Int) + 1)]) (r := []) k_104_62 rfl rfl rfl ?_
    have F11a : zfr [] [18, 19] σ (zsetA τ 18 (zup (τ.2 18) ((l.length : Int) : Int).toNat ((c : Int)))) := zfr_A hf (by decide)
    refine t_endsl (l := l ++ [(c : Int)]) hL hM ((congrFun (F11a.2 12 (by decide)) 1).trans h12) ((congrFun (F11a.2 12 (by decide)) 2).trans h13) (zrs_put hrs (by omega)) (zcol_a hc (by omega) (by omega)) (by rw [zlen1]; omega) (by rw [zlen1]; omega) (fun τ11 f11 => ?_)
    have F11 := zfr_2 F11a f11 (by decide) (by decide)
    have R11 : zrs τ11 (l ++ [(c : Int)]) := zrs_fr (zrs_put hrs (by omega)) f11 (by decide)
    refine r_if_ne k_104_65 (fun h65 => ?_) (fun h65 => ?_)
    · skip
      obtain ⟨n1, rfl⟩ : ∃ n1, n0 = n1 + 1 := ⟨n0 - 1, by omega⟩
      have e := zmcC_f (F := fun c => zenu C law least m (l ++ [(c : Int)])) (n := n1) (c := c) (zok_f (law := law) (least := least) (l := l) (by omega))
      rw [e] at hq hd
      exact ih _ (by omega) m n1 (c + 1) l τ11 rfl (by omega) (by omega) hc F11 (zrs_l R11) (by rw [zrs_e R11]; omega) hq hd
    · skip
      refine r_iload k_104_68 rfl ?_
      refine r_iload k_104_69 rfl ?_
      refine r_const k_104_70 ?_
      refine r_bin (v := N - 1) k_104_71 (zb_sub ⟨by omega, by omega⟩) ?_
      refine r_ic_ne k_104_72 (fun h72 => ?_) (fun h72 => ?_)
      · skip
        refine r_iinc (v := (l.length : Int) + 1) (L' := [vR (27), vI (N), vI (bg), vI ((l.length : Int) + 1)]) k_104_77 rfl (zb_add ⟨by omega, by omega⟩) rfl ?_
        refine r_aload k_104_80 rfl ?_
        refine r_getR (q := 34) k_104_81 ⟨rfl, rfl⟩ ?_
        refine r_iload k_104_84 rfl ?_
        refine r_const k_104_85 ?_
        refine r_iast k_104_86 ⟨rfl, rfl⟩ ⟨by omega, by omega⟩ ?_
        refine r_goto k_104_87 ?_
        obtain ⟨n1, rfl⟩ : ∃ n1, n0 = n1 + 1 := ⟨n0 - 1, by omega⟩
        obtain ⟨m1, rfl⟩ : ∃ m1, m = m1 + 1 := ⟨m - 1, by omega⟩
        have e := zmcC_t (F := fun c => zenu C law least (m1 + 1) (l ++ [(c : Int)])) (n := n1) (c := c) (zok_t (law := law) (least := least) (l := l) (by omega))
        rw [e] at hq hd
        have e1 : ((l.length : Int) + 1) = (((l ++ [(c : Int)]).length : Nat) : Int) := by rw [zlen1]; omega
        rw [e1]
        refine ih (m1 * 5 + C) (by omega) m1 C 0 (l ++ [(c : Int)]) _ rfl (by rw [zlen1]; omega) (by omega) (zcol_a hc (by omega) (by omega)) (zfr_A F11 (by decide)) (zrs_up R11 (by rw [zlen1]; omega)) (by rw [zA_2, zlen1, Int.toNat_natCast, zup_1]; rfl) (fun q R hS => hq q _ (by show zenu C law least (m1 + 1) (l ++ [(c : Int)]) ++ _ = _; rw [show zenu C law least (m1 + 1) (l ++ [(c : Int)]) = q :: R from hS]; rfl)) (fun hS υ gf gr => ?_)
        have e2 : ((((l ++ [(c : Int)]).length : Nat) : Int) - 1) = (l.length : Int) := by rw [zlen1]; omega
        rw [e2]
        have e3 : zenu C law least (m1 + 1) (l ++ [(c : Int)]) = [] := hS
        refine ih _ (by omega) (m1 + 1) n1 (c + 1) l υ rfl (by omega) (by omega) hc gf (zrs_l gr) (by rw [zrs_e gr]; omega) (fun q R hS2 => hq q R (by show zenu C law least (m1 + 1) (l ++ [(c : Int)]) ++ _ = _; rw [e3]; exact hS2)) (fun hS2 => hd (by show zenu C law least (m1 + 1) (l ++ [(c : Int)]) ++ _ = _; rw [e3]; exact hS2))
      · skip
        refine r_const k_104_75 ?_
        refine r_zret k_104_76 (by omega) ?_
        obtain rfl : m = 0 := by omega
        obtain ⟨n1, rfl⟩ : ∃ n1, n0 = n1 + 1 := ⟨n0 - 1, by omega⟩
        exact hq _ _ (by rw [zmcC_t (zok_t (by omega))]; rfl) _ F11 R11
  · skip
    refine r_iinc (v := ((l.length : Int)) - 1) (L' := [vR (27), vI (N), vI (bg), vI (((l.length : Int)) - 1)]) k_104_52 rfl (by rw [zb_add ⟨by omega, by omega⟩]; omega) rfl ?_
    refine r_goto k_104_55 ?_
    obtain rfl : n0 = 0 := by omega
    exact hd rfl _ (zfr_A hf (by decide)) (zrs_up hrs (by omega))
