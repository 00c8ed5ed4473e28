/-! goesOn: the first row, and the next one -/
theorem t_up {d : Nat} {σ : zM} {K : zM → Option zV → Prop} {C : Nat} {law least bg : Int} {N : Nat} (hL : 0 ≤ law ∧ law ≤ 3) (hM : 1 ≤ least ∧ least ≤ 9) (hC : C ≤ 4) (h10 : σ.2 12 0 = (C : Int)) (h12 : σ.2 12 1 = law) (h13 : σ.2 12 2 = least) (hN : N ≤ 40) : ∀ (r : List Int) (m : Nat) (τ : zM), r.length + m = N → (∀ x ∈ r, 0 ≤ x ∧ x < (C : Int)) → zfr [] [18, 19] σ τ → zrs τ r.reverse → (∀ q R, zbk C law least m r = q :: R → ∀ υ, zfr [] [18, 19] σ υ → zrs υ q → K υ (some (vI 1))) → (zbk C law least m r = [] → ∀ υ, zfr [] [18, 19] σ υ → K υ (some (vI 0))) → zG (d + 2) 104 K 0 zfx (23, [vR 27, vI N, vI bg, vI ((r.length : Int) - 1)], [], τ) := by
  intro r
  induction r with
  | nil =>
    intro m τ hm hx hf hrs hq hd
    show zG (d + 2) 104 K 0 zfx (23, [vR 27, vI N, vI bg, vI (-1)], [], τ)
    refine r_iload k_104_23 rfl ?_
    refine r_if_lt k_104_24 (fun _ => ?_) (fun hz => absurd hz (by decide))
    refine r_const k_104_90 ?_
    refine r_zret k_104_91 (by omega) ?_
    exact hd rfl _ hf
  | cons x r ih =>
    intro m τ hm hx hf hrs hq hd
    have hx0 := hx x (List.mem_cons_self ..)
    have hlr : r.reverse.length = r.length := List.length_reverse
    have hl1 : (x :: r).length = r.length + 1 := rfl
    rw [List.reverse_cons] at hrs
    have e : (((x :: r).length : Nat) : Int) - 1 = ((r.reverse.length : Nat) : Int) := by rw [hl1, hlr]; omega
    rw [e]
    refine t_down hL hM hC h10 h12 h13 hN _ m (C - (x.toNat + 1)) (x.toNat + 1) r.reverse τ rfl (by rw [hlr]; omega) (by omega) (fun y hy => by have := hx y (List.mem_cons_of_mem _ (List.mem_reverse.mp hy)); omega) hf (zrs_l hrs) (by rw [zrs_e hrs]; omega) (fun q R hS => hq q (R ++ zbk C law least (m + 1) r) (by rw [zbk, hS]; rfl)) (fun hS υ gf gr => ?_)
    have e2 : zbk C law least m (x :: r) = zbk C law least (m + 1) r := by rw [zbk, hS]; rfl
    rw [e2] at hq hd
    rw [hlr]
    exact ih (m + 1) υ (by omega) (fun y hy => hx y (List.mem_cons_of_mem _ hy)) gf gr hq hd
theorem t_first {d : Nat} {σ : zM} {K : zM → Option zV → Prop} {C : Nat} {law least : Int} {N : Nat} (hL : 0 ≤ law ∧ law ≤ 3) (hM : 1 ≤ least ∧ least ≤ 9) (hC : C ≤ 4) (h10 : σ.2 12 0 = (C : Int)) (h12 : σ.2 12 1 = law) (h13 : σ.2 12 2 = least) (hN : N ≤ 40) (hN1 : 1 ≤ N) (hq : ∀ q R, zenu C law least N [] = q :: R → ∀ υ, zfr [] [18, 19] σ υ → zrs υ q → K υ (some (vI 1))) (hd : zenu C law least N [] = [] → ∀ υ, zfr [] [18, 19] σ υ → K υ (some (vI 0))) : zC (d + 3) 104 [vR 27, vI N, vI 1] σ K := by
  refine zC_in rfl ?_
  show zG (d + 2) 104 K 0 zfx (0, [vR (27), vI ((N : Int)), vI (1), vU], [], σ)
  refine r_iload k_104_0 rfl ?_
  refine r_if_eq k_104_1 (fun hz => absurd hz (by decide)) (fun _ => ?_)
  refine r_const k_104_4 ?_
  refine r_goto k_104_5 ?_
  refine r_istore (L' := [vR (27), vI ((N : Int)), vI (1), vI (0)]) k_104_11 rfl ?_
  refine r_iload k_104_12 rfl ?_
  refine r_if_eq k_104_13 (fun hz => absurd hz (by decide)) (fun _ => ?_)
  refine r_aload k_104_16 rfl ?_
  refine r_getR (q := 34) k_104_17 ⟨rfl, rfl⟩ ?_
  refine r_const k_104_20 ?_
  refine r_const k_104_21 ?_
  refine r_iast k_104_22 ⟨rfl, rfl⟩ ⟨by decide, by decide⟩ ?_
  obtain ⟨m, rfl⟩ : ∃ m, N = m + 1 := ⟨N - 1, by omega⟩
  exact t_down hL hM hC h10 h12 h13 hN _ m C 0 [] _ rfl (by simp) (by omega) zcol_nil (zfr_A zfr_rf (by decide)) (fun k hk => absurd hk (by simp)) (by rw [zA_2]; exact zup_1 _ _ _) (fun q R hS => hq q R hS) (fun hS υ gf gr => t_up hL hM hC h10 h12 h13 hN [] (m + 1) υ (by simp) (fun x hx => absurd hx (List.not_mem_nil)) gf gr (fun q R hS2 => (nomatch hS2)) (fun _ => hd hS))
theorem t_next {d : Nat} {σ : zM} {K : zM → Option zV → Prop} {C : Nat} {law least : Int} {N : Nat} (hL : 0 ≤ law ∧ law ≤ 3) (hM : 1 ≤ least ∧ least ≤ 9) (hC : C ≤ 4) (h10 : σ.2 12 0 = (C : Int)) (h12 : σ.2 12 1 = law) (h13 : σ.2 12 2 = least) (hN : N ≤ 40) {p : List Int} (hp : p.length = N) (hpc : ∀ x ∈ p, 0 ≤ x ∧ x < (C : Int)) (hrs : zrs σ p) (hq : ∀ q R, zbk C law least 0 p.reverse = q :: R → ∀ υ, zfr [] [18, 19] σ υ → zrs υ q → K υ (some (vI 1))) (hd : zbk C law least 0 p.reverse = [] → ∀ υ, zfr [] [18, 19] σ υ → K υ (some (vI 0))) : zC (d + 3) 104 [vR 27, vI N, vI 0] σ K := by
  refine zC_in rfl ?_
  show zG (d + 2) 104 K 0 zfx (0, [vR (27), vI ((N : Int)), vI (0), vU], [], σ)
  refine r_iload k_104_0 rfl ?_
  refine r_if_eq k_104_1 (fun _ => ?_) (fun hz => absurd hz (by decide))
  refine r_iload k_104_8 rfl ?_
  refine r_const k_104_9 ?_
  refine r_bin (v := (N : Int) - 1) k_104_10 (zb_sub ⟨by omega, by omega⟩) ?_
  refine r_istore (L' := [vR (27), vI ((N : Int)), vI (0), vI ((N : Int) - 1)]) k_104_11 rfl ?_
  refine r_iload k_104_12 rfl ?_
  refine r_if_eq k_104_13 (fun _ => ?_) (fun hz => absurd hz (by decide))
  have e : ((N : Nat) : Int) - 1 = ((p.reverse.length : Nat) : Int) - 1 := by rw [List.length_reverse, hp]
  rw [e]
  exact t_up hL hM hC h10 h12 h13 hN p.reverse 0 σ (by rw [List.length_reverse, hp]; rfl) (fun x hx => hpc x (List.mem_reverse.mp hx)) zfr_rf (by rw [List.reverse_reverse]; exact hrs) hq hd
/-- how many of the rows with Q there are: the class's count -/
theorem zenu_ct {C : Nat} {law least : Int} {Q : List Int → Bool} : ∀ (m : Nat) (l : List Int), ((zenu C law least m l).filter Q).length = zct C law least Q m l
  | 0, l => by
    unfold zenu zct
    cases h : Q l <;> simp [h]
  | m + 1, l => by
    unfold zenu zct
    have g : ∀ (n c : Nat), ((zmcC (zok law least l) (fun c => zenu C law least m (l ++ [(c : Int)])) n c).filter Q).length + zsm (fun c => if zend law least (l ++ [(c : Int)]) = 0 then zct C law least Q m (l ++ [(c : Int)]) else 0) c = zsm (fun c => if zend law least (l ++ [(c : Int)]) = 0 then zct C law least Q m (l ++ [(c : Int)]) else 0) (c + n) := by
      intro n
      induction n with
      | zero => intro c; simp [zmcC]
      | succ n ih =>
        intro c
        have ih2 := ih (c + 1)
        rw [show c + (n + 1) = c + 1 + n by omega, ← ih2, zsm]
        by_cases hz : zend law least (l ++ [(c : Int)]) = 0
        · rw [zmcC_t (zok_t hz), List.filter_append, List.length_append, zenu_ct m, if_pos hz]; omega
        · rw [zmcC_f (zok_f hz), if_neg hz]; omega
    have := g C 0
    rw [Nat.zero_add] at this
    exact this
/-- the first of the rows with Q: the class's find -/
theorem zenu_fd {C : Nat} {law least : Int} {Q : List Int → Bool} : ∀ (m : Nat) (l : List Int), (zenu C law least m l).find? Q = zfd C law least Q m l
  | 0, l => by
    unfold zenu zfd
    cases h : Q l <;> simp [h]
  | m + 1, l => by
    unfold zenu zfd
    have g : ∀ (n c : Nat), (zmcC (zok law least l) (fun c => zenu C law least m (l ++ [(c : Int)])) n c).find? Q = zfdC law least (fun c => zfd C law least Q m (l ++ [(c : Int)])) l n c := by
      intro n
      induction n with
      | zero => intro c; rfl
      | succ n ih =>
        intro c
        by_cases hz : zend law least (l ++ [(c : Int)]) = 0
        · rw [zmcC_t (zok_t hz), List.find?_append, zenu_fd m]
          cases hf : zfd C law least Q m (l ++ [(c : Int)]) with
          | some q => rw [zfdC_s hz hf]; rfl
          | none => rw [zfdC_n (fun _ => hf), ← ih]; rfl
        · rw [zmcC_f (zok_f hz), zfdC_n (fun h => absurd h hz), ih]
    exact g C 0
