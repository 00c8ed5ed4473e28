/-! mending -/
/-- rows behind c, n of them, where H holds -/
def zmcC (H : Nat → Bool) (F : Nat → List (List Int)) : Nat → Nat → List (List Int)
  | 0, _ => []
  | n + 1, c => (if H c = true then F c else []) ++ zmcC H F n (c + 1)
def zholdb (law least : Int) (l : List Int) (fr to : Nat) : Bool := (List.range (to - fr)).all (fun i => decide (zend law least (l.take (fr + 1 + i)) = 0))
theorem zholdb_t {law least : Int} {l : List Int} {fr to : Nat} : zholdb law least l fr to = true ↔ zhold law least l fr to := by
  unfold zholdb zhold
  rw [List.all_eq_true]
  constructor
  · intro h e h1 h2
    have := of_decide_eq_true (h (e - fr - 1) (List.mem_range.mpr (by omega)))
    rw [show fr + 1 + (e - fr - 1) = e by omega] at this
    exact this
  · intro h i hi
    have := List.mem_range.mp hi
    exact decide_eq_true (h _ (by omega) (by omega))
theorem zholdb_f {law least : Int} {l : List Int} {fr to : Nat} : zholdb law least l fr to = false ↔ ¬ zhold law least l fr to := by
  rw [← zholdb_t]; cases zholdb law least l fr to <;> simp
def znxt (pos : Nat → Nat) (n len k : Nat) : Nat := if k + 1 < n then pos (k + 1) else len
/-- the mended rows as the class finds them: j lost pales from the k-th on -/
def zmc (C : Nat) (law least : Int) (pos : Nat → Nat) (n : Nat) : Nat → Nat → List Int → List (List Int)
  | 0, _, l => [l]
  | j + 1, k, l => zmcC (fun c => zholdb law least (l.set (pos k) (c : Int)) (pos k) (znxt pos n l.length k)) (fun c => zmc C law least pos n j (k + 1) (l.set (pos k) (c : Int))) C 0
theorem zmcC_len {H : Nat → Bool} {F : Nat → List (List Int)} {B : Nat} (hF : ∀ c, (F c).length ≤ B) : ∀ (n c : Nat), (zmcC H F n c).length ≤ n * B
  | 0, _ => Nat.zero_le _
  | n + 1, c => by
    have ih := zmcC_len (H := H) hF n (c + 1)
    have := hF c
    unfold zmcC
    rw [List.length_append, Nat.add_mul]
    split <;> simp <;> omega
theorem zmc_len {C : Nat} {law least : Int} {pos : Nat → Nat} {n : Nat} (hC : C ≤ 4) : ∀ (j k : Nat) (l : List Int), (zmc C law least pos n j k l).length ≤ 4 ^ j
  | 0, _, _ => by simp [zmc]
  | j + 1, k, l => by
    unfold zmc
    have h := zmcC_len (H := fun c => zholdb law least (l.set (pos k) (c : Int)) (pos k) (znxt pos n l.length k)) (F := fun c => zmc C law least pos n j (k + 1) (l.set (pos k) (c : Int))) (B := 4 ^ j) (fun c => zmc_len hC j _ _) C 0
    have h2 : C * 4 ^ j ≤ 4 * 4 ^ j := Nat.mul_le_mul_right _ hC
    rw [Nat.pow_succ]; omega
theorem zmc_b {C : Nat} {law least : Int} {pos : Nat → Nat} {n : Nat} (hC : C ≤ 4) {j : Nat} (hj : j ≤ 4) (k : Nat) (l : List Int) : (zmc C law least pos n j k l).length ≤ 256 :=
  Nat.le_trans (zmc_len hC j k l) (Nat.le_trans (Nat.pow_le_pow_right (by decide) hj) (by decide))
theorem zmcC_all {H : Nat → Bool} {F : Nat → List (List Int)} {L : Nat} (hF : ∀ c, ∀ q ∈ F c, q.length = L) : ∀ (n c : Nat), ∀ q ∈ zmcC H F n c, q.length = L
  | 0, _, q, hq => absurd hq (List.not_mem_nil)
  | n + 1, c, q, hq => by
    unfold zmcC at hq
    rcases List.mem_append.mp hq with h | h
    · by_cases hH : H c = true
      · rw [if_pos hH] at h; exact hF c q h
      · rw [if_neg hH] at h; exact absurd h (List.not_mem_nil)
    · exact zmcC_all hF n (c + 1) q h
theorem zmc_all {C : Nat} {law least : Int} {pos : Nat → Nat} {n : Nat} : ∀ (j k : Nat) (l : List Int), ∀ q ∈ zmc C law least pos n j k l, q.length = l.length
  | 0, _, l, q, hq => by unfold zmc at hq; rw [List.mem_singleton.mp hq]
  | j + 1, k, l, q, hq => by
    unfold zmc at hq
    exact zmcC_all (fun c q hq => by rw [zmc_all j _ _ q hq, List.length_set]) C 0 q hq
/-- what is found first stays -/
def zfb (b : List Int) (R : List (List Int)) : List Int := if b.length = 0 then R.headD b else b
theorem zfb_nil (b : List Int) : zfb b [] = b := by unfold zfb; split <;> rfl
theorem zfb_app {b : List Int} {A B : List (List Int)} (h : ∀ q ∈ A, q.length ≠ 0) : zfb (zfb b A) B = zfb b (A ++ B) := by
  cases A with
  | nil => rw [zfb_nil, List.nil_append]
  | cons a A =>
    have ha := h a (List.mem_cons_self ..)
    unfold zfb
    by_cases hb : b.length = 0
    · rw [if_pos hb, if_pos hb]
      show (if a.length = 0 then B.headD a else a) = a
      rw [if_neg ha]
    · rw [if_neg hb, if_neg hb, if_neg hb]
theorem zcol_set {l : List Int} {c : Int} (h : zcol l) (h0 : 0 ≤ c) (h4 : c < 4) (k : Nat) : zcol (l.set k c) := fun x hx => by
  rcases List.mem_or_eq_of_mem_set hx with q | q
  · exact h x q
  · rw [q]; exact ⟨h0, h4⟩
theorem zlf_set_n {l : List Int} {p i : Nat} {c : Int} (h : i ≠ p) : zlf (l.set p c) i = zlf l i := by
  unfold zlf
  rw [List.getD_eq_getElem?_getD, List.getD_eq_getElem?_getD, List.getElem?_set_ne (fun q => h q.symm)]
theorem zlf_set_e {l : List Int} {p : Nat} {c : Int} (h : p < l.length) : zlf (l.set p c) p = c := by
  unfold zlf
  rw [List.getD_eq_getElem?_getD, List.getElem?_set_self h]; rfl
/-- alike but for the lost pales from the k-th on -/
def zsim (pos : Nat → Nat) (n k : Nat) (l l2 : List Int) : Prop := l2.length = l.length ∧ ∀ i, i < l.length → (∀ q, k ≤ q → q < n → i ≠ pos q) → zlf l2 i = zlf l i
theorem zsim_rf (pos : Nat → Nat) (n k : Nat) (l : List Int) : zsim pos n k l l := ⟨rfl, fun _ _ _ => rfl⟩
theorem zsim_set {pos : Nat → Nat} {n k : Nat} {l l1 : List Int} {c : Int} (h : zsim pos n k l l1) (hp : pos k < l.length) : zsim pos n (k + 1) (l.set (pos k) c) (l1.set (pos k) c) := by
  refine ⟨by rw [List.length_set, List.length_set]; exact h.1, fun i hi hq => ?_⟩
  rw [List.length_set] at hi
  by_cases e : i = pos k
  · subst e; rw [zlf_set_e hp, zlf_set_e (by rw [h.1]; exact hp)]
  · rw [zlf_set_n e, zlf_set_n e]
    refine h.2 i hi fun q h1 h2 => ?_
    by_cases hqk : q = k
    · subst hqk; exact e
    · exact hq q (by omega) h2
theorem zsim_put {pos : Nat → Nat} {n k : Nat} {l l1 : List Int} {c : Int} (h : zsim pos n k l l1) (hk : k < n) : zsim pos n k l (l1.set (pos k) c) :=
  ⟨by rw [List.length_set]; exact h.1, fun i hi hq => by rw [zlf_set_n (hq k (Nat.le_refl _) hk)]; exact h.2 i hi hq⟩
theorem zsim_up {pos : Nat → Nat} {n k : Nat} {l l1 l2 : List Int} {c : Int} (h : zsim pos n k l l1) (hk : k < n) (h2 : zsim pos n (k + 1) (l1.set (pos k) c) l2) : zsim pos n k l l2 := by
  have h3 := zsim_put (c := c) h hk
  refine ⟨h2.1.trans h3.1, fun i hi hq => ?_⟩
  rw [h2.2 i (by rw [h3.1]; exact hi) (fun q h4 h5 => hq q (by omega) h5)]
  exact h3.2 i hi hq
theorem zhold_sim {law least : Int} {pos : Nat → Nat} {n k : Nat} {l l2 : List Int} {fr : Nat} (hmon : ∀ a b, a < b → b < n → pos a < pos b) (hpl : ∀ i, i < n → pos i < l.length) (h : zsim pos n (k + 1) l l2) : zholdb law least l2 fr (znxt pos n l.length k) = zholdb law least l fr (znxt pos n l.length k) := by
  have hnl : znxt pos n l.length k ≤ l.length := by
    unfold znxt
    split
    · next q => exact Nat.le_of_lt (hpl _ q)
    · exact Nat.le_refl _
  have e : ∀ e, e ≤ znxt pos n l.length k → l2.take e = l.take e := fun e he => by
    refine zlf_ext (by rw [List.length_take, List.length_take, h.1]) fun i hi => ?_
    rw [List.length_take] at hi
    rw [zlf_t (by omega), zlf_t (by omega)]
    refine h.2 i (by omega) fun q h1 h2 => ?_
    have hlt : i < pos (k + 1) := by
      unfold znxt at he
      rw [if_pos (by omega)] at he
      omega
    by_cases hq : q = k + 1
    · subst hq; omega
    · have := hmon (k + 1) q (by omega) h2; omega
  refine Bool.eq_iff_iff.mpr ?_
  rw [zholdb_t, zholdb_t]
  unfold zhold
  constructor
  · intro q x h1 h2; rw [← e x h2]; exact q x h1 h2
  · intro q x h1 h2; rw [e x h2]; exact q x h1 h2
theorem zmcC_congr {H H' : Nat → Bool} {F F' : Nat → List (List Int)} (h1 : ∀ c, H c = H' c) (h2 : ∀ c, F c = F' c) (n c : Nat) : zmcC H F n c = zmcC H' F' n c := by
  rw [show H = H' from funext h1, show F = F' from funext h2]
theorem zmc_sim {C : Nat} {law least : Int} {pos : Nat → Nat} {n : Nat} (hmon : ∀ a b, a < b → b < n → pos a < pos b) : ∀ (j k : Nat) (l l2 : List Int), j + k = n → (∀ i, i < n → pos i < l.length) → zsim pos n k l l2 → zmc C law least pos n j k l2 = zmc C law least pos n j k l
  | 0, k, l, l2, hk, hpl, h => by
    have e : l2 = l := zlf_ext h.1 fun i hi => h.2 i (by rw [← h.1]; exact hi) (fun q h1 h2 => by omega)
    rw [e]
  | j + 1, k, l, l2, hk, hpl, h => by
    unfold zmc
    have hp := hpl k (by omega)
    refine zmcC_congr (fun c => ?_) (fun c => ?_) C 0
    · have := zhold_sim (law := law) (least := least) (fr := pos k) hmon (l := l.set (pos k) (c : Int)) (l2 := l2.set (pos k) (c : Int)) (k := k) (fun i hi => by rw [List.length_set]; exact hpl i hi) (zsim_set h hp)
      rw [List.length_set] at this
      rw [h.1]
      exact this
    · exact zmc_sim hmon j (k + 1) _ _ (by omega) (fun i hi => by rw [List.length_set]; exact hpl i hi) (zsim_set h hp)
theorem v_ways {C : Nat} {law least : Int} {pos : Nat → Nat} {n : Nat} (hb : zbd C law least) (hn4 : n ≤ 4) (hmon : ∀ a b, a < b → b < n → pos a < pos b) : ∀ (j D k : Nat), j + 6 ≤ D → j + k = n → ∀ {σ : zM} {K : zM → Option zV → Prop} {l b : List Int}, zrl σ C law least → zis σ 2 l → zis σ 3 b → zcol l → 0 < l.length → l.length ≤ 70 → (∀ i, i < n → pos i < l.length) → (∀ i, i < n → σ.2 11 i = (pos i : Int)) → (∀ υ l2, zfr [2, 3] [2, 3] σ υ → zsim pos n k l l2 → zis υ 2 l2 → zcol l2 → zis υ 3 (zfb b (zmc C law least pos n j k l)) → K υ (some (vI (((zmc C law least pos n j k l).length : Nat))))) → zC D 67 [vR 4, vR 22, vR 26, vI n, vI k, vR 24] σ K := by
  have hC := hb.1
  have hC4 := hb.2.1
  intro j
  induction j with
  | zero =>
    intro D k hD hjk σ K l b hw hz hy hc hl0 hl hpl hlo q1
    obtain ⟨d, rfl⟩ : ∃ d, D = d + 6 := ⟨D - 6, by omega⟩
    have F0 : zfr [2, 3] [2, 3] σ σ := zfr_rf
    refine zC_in rfl ?_
    show zG (d + 5) 67 K 0 zfx (0, [vR (4), vR (22), vR (26), vI ((n : Int)), vI ((k : Int)), vR (24), vU, vU, vU], [], σ)
    refine r_iload k_67_0 rfl ?_
    refine r_iload k_67_2 rfl ?_
    refine r_ic_ge k_67_3 (fun _ => ?_) (fun hz => absurd hz (by omega))
    refine r_aload k_67_13 rfl ?_
    refine r_getS (v := (b).length) k_67_15 ⟨rfl, rfl⟩ hy.1 ?_
    refine r_if_ne k_67_18 (fun h18 => ?_) (fun h18 => ?_)
    · skip
      refine r_const k_67_31 ?_
      refine r_iret k_67_32 ?_
      have e : zfb b [l] = b := if_neg (by omega)
      exact q1 _ l F0 (zsim_rf _ _ _ _) hz hc (by show zis _ 3 (zfb b [l]); rw [e]; exact hy)
    · skip
      refine r_aload k_67_21 rfl ?_
      refine r_aload k_67_23 rfl ?_
      refine r_aload k_67_24 rfl ?_
      refine r_getS (v := (l).length) k_67_25 ⟨rfl, rfl⟩ hz.1 ?_
      refine r_call (as := [vR (24), vR (22), vI ((l).length)]) (r := []) k_67_28 rfl rfl rfl ?_
      refine s_takel (r := 3) (t := 2) (l := l) (m := (l).length) (by decide) (by decide) hz (by omega) rfl (Nat.le_refl _) (fun τ1 f1 z1 => ?_)
      replace f1 := zfr_w (S' := [3]) (A' := [3]) f1 (by decide) (by decide)
      rw [List.take_length] at z1
      have F1 := zfr_2 F0 f1 (by decide) (by decide)
      have Z1_2 := zis_fr hz f1 (by decide) (by decide)
      have W1 := zrl_fr hw f1 (by decide)
      refine r_const k_67_31 ?_
      refine r_iret k_67_32 ?_
      have e : zfb b [l] = l := if_pos (by omega)
      exact q1 _ l F1 (zsim_rf _ _ _ _) Z1_2 hc (by show zis _ 3 (zfb b [l]); rw [e]; exact z1)
  | succ j ih0 =>
    intro D k hD hjk σ K l b hw hz hy hc hl0 hl hpl hlo q1
    obtain ⟨d, rfl⟩ : ∃ d, D = d + 6 := ⟨D - 6, by omega⟩
    have F0 : zfr [2, 3] [2, 3] σ σ := zfr_rf
    have hnx : pos k < znxt pos n l.length k := by
      unfold znxt
      split
      · exact hmon k (k + 1) (by omega) (by omega)
      · exact hpl k (by omega)
    have hnl : znxt pos n l.length k ≤ l.length := by
      unfold znxt
      split
      · next q => exact Nat.le_of_lt (hpl _ q)
      · exact Nat.le_refl _
    have hpk := hpl k (by omega)
    refine zC_in rfl ?_
    have lp : ∀ (f0 : Nat) (c : Nat) (τ : zM) (s : Nat) (b1 l1 : List Int), c + f0 = C → s ≤ c * 256 → zrl τ C law least → zsim pos n k l l1 → zis τ 2 l1 → zcol l1 → zis τ 3 b1 → zfr [2, 3] [2, 3] σ τ → (∀ υ l2, zfr [2, 3] [2, 3] σ υ → zsim pos n k l l2 → zis υ 2 l2 → zcol l2 → zis υ 3 (zfb b1 (zmcC (fun c => zholdb law least (l.set (pos k) (c : Int)) (pos k) (znxt pos n l.length k)) (fun c => zmc C law least pos n j (k + 1) (l.set (pos k) (c : Int))) f0 c)) → K υ (some (vI (s + ((zmcC (fun c => zholdb law least (l.set (pos k) (c : Int)) (pos k) (znxt pos n l.length k)) (fun c => zmc C law least pos n j (k + 1) (l.set (pos k) (c : Int))) f0 c).length : Nat))))) → zG (d + 5) 67 K 0 zfx (71, [vR (4), vR (22), vR (26), vI ((n : Int)), vI ((k : Int)), vR (24), vI ((znxt pos n l.length k : Nat)), vI ((s : Int)), vI ((c : Int))], [], τ) := by
      intro f0
      induction f0 using Nat.strongRecOn with
      | _ f0 ih =>
      intro c τ s b1 l1 hn hsb W1 hs1 hz1 hc1 hy1 F1 hq
      refine r_iload k_67_71 rfl ?_
      refine r_aload k_67_73 rfl ?_
      refine r_getS (v := C) k_67_74 ⟨rfl, rfl⟩ W1.1 ?_
      refine r_ic_ge k_67_77 (fun h77 => ?_) (fun h77 => ?_)
      · skip
        refine r_iload k_67_128 rfl ?_
        refine r_iret k_67_130 ?_
        obtain rfl : f0 = 0 := by omega
        exact zKe (hq _ l1 F1 hs1 hz1 hc1 (by rw [zmcC, zfb_nil]; exact hy1)) (by rw [zmcC]; simp)
      · skip
        refine r_aload k_67_80 rfl ?_
        refine r_aload k_67_81 rfl ?_
        refine r_iload k_67_82 rfl ?_
        refine r_iald (v := (pos k : Int)) k_67_84 ⟨rfl, rfl⟩ ⟨by omega, by omega⟩ (by rw [show ((k : Int) : Int).toNat = k by omega]; exact (congrFun (F1.2 11 (by decide)) k).trans (hlo k (by omega))) ?_
        refine r_iload k_67_85 rfl ?_
        refine r_call (as := [vR (22), vI ((pos k : Int)), vI ((c : Int))]) (r := []) k_67_87 rfl rfl rfl ?_
        refine v_put (r := 2) (l := l1) (k := pos k) (c := (c : Int)) (by decide) hz1 (by rw [hs1.1]; omega) rfl (by rw [hs1.1]; exact hpk) (fun τ2 f2 z2 => ?_)
        have F2 := zfr_2 F1 f2 (by decide) (by decide)
        have Z2_3 := zis_fr hy1 f2 (by decide) (by decide)
        have W2 := zrl_fr W1 f2 (by decide)
        have hc2 := zcol_set (k := pos k) hc1 (show 0 ≤ (c : Int) by omega) (show (c : Int) < 4 by omega)
        have hln2 : (l1.set (pos k) (c : Int)).length = l.length := by rw [List.length_set]; exact hs1.1
        refine r_aload k_67_90 rfl ?_
        refine r_aload k_67_91 rfl ?_
        refine r_aload k_67_92 rfl ?_
        refine r_iload k_67_93 rfl ?_
        refine r_iald (v := (pos k : Int)) k_67_95 ⟨rfl, rfl⟩ ⟨by omega, by omega⟩ (by rw [show ((k : Int) : Int).toNat = k by omega]; exact (congrFun (F2.2 11 (by decide)) k).trans (hlo k (by omega))) ?_
        refine r_iload k_67_96 rfl ?_
        refine r_call (as := [vR (4), vR (22), vI ((pos k : Int)), vI ((znxt pos n l.length k : Nat))]) (r := []) k_67_98 rfl rfl rfl ?_
        refine v_holds (r := 2) (l := l1.set (pos k) (c : Int)) (fr := pos k) (to := znxt pos n l.length k) (by decide) hb W2 z2 hc2 (by omega) (by omega) (by omega) (fun g => ?_) (fun g => ?_)
        · skip
          refine r_if_eq k_67_101 (fun hz => absurd hz (by decide)) (fun _ => ?_)
          refine r_iload k_67_104 rfl ?_
          refine r_aload k_67_106 rfl ?_
          refine r_aload k_67_107 rfl ?_
          refine r_aload k_67_108 rfl ?_
          refine r_iload k_67_109 rfl ?_
          refine r_iload k_67_110 rfl ?_
          refine r_const k_67_112 ?_
          refine r_bin (v := (k : Int) + 1) k_67_113 (zb_add ⟨by omega, by omega⟩) ?_
          refine r_aload k_67_114 rfl ?_
          refine r_call (as := [vR (4), vR (22), vR (26), vI ((n : Int)), vI ((k : Int) + 1), vR (24)]) (r := [vI ((s : Int))]) k_67_116 rfl rfl rfl ?_
          refine ih0 (d + 5) (k + 1) (by omega) (by omega) (l := l1.set (pos k) (c : Int)) (b := b1) W2 z2 Z2_3 hc2 (by omega) (by omega) (fun i hi => by rw [hln2]; exact hpl i hi) (fun i hi => (congrFun (F2.2 11 (by decide)) i).trans (hlo i hi)) (fun τ3 l3 f3 s3 z3 c3 y3 => ?_)
          have F3 := zfr_2 F2 f3 (by decide) (by decide)
          have W3 := zrl_fr W2 f3 (by decide)
          have hX := zmc_b (law := law) (least := least) (pos := pos) (n := n) (C := C) (by omega) (show j ≤ 4 by omega) (k + 1) (l1.set (pos k) (c : Int))
          refine r_bin (v := (s : Int) + (((zmc C law least pos n j (k + 1) (l1.set (pos k) (c : Int))).length : Nat))) k_67_119 (zb_add ⟨by omega, by omega⟩) ?_
          refine r_istore (L' := [vR (4), vR (22), vR (26), vI ((n : Int)), vI ((k : Int)), vR (24), vI ((znxt pos n l.length k : Nat)), vI ((s : Int) + (((zmc C law least pos n j (k + 1) (l1.set (pos k) (c : Int))).length : Nat))), vI ((c : Int))]) k_67_120 rfl ?_
          refine r_iinc (v := (c : Int) + 1) (L' := [vR (4), vR (22), vR (26), vI ((n : Int)), vI ((k : Int)), vR (24), vI ((znxt pos n l.length k : Nat)), vI ((s : Int) + (((zmc C law least pos n j (k + 1) (l1.set (pos k) (c : Int))).length : Nat))), vI ((c : Int) + 1)]) k_67_122 rfl (zb_add ⟨by omega, by omega⟩) rfl ?_
          refine r_goto k_67_125 ?_
          obtain ⟨n2, rfl⟩ : ∃ n2, f0 = n2 + 1 := ⟨f0 - 1, by omega⟩
          have hhs := zhold_sim (law := law) (least := least) (fr := pos k) hmon (l := l.set (pos k) (c : Int)) (l2 := l1.set (pos k) (c : Int)) (k := k) (fun i hi => by rw [List.length_set]; exact hpl i hi) (zsim_set hs1 hpk)
          rw [List.length_set] at hhs
          have hms := zmc_sim (C := C) (law := law) (least := least) hmon j (k + 1) (l.set (pos k) (c : Int)) (l1.set (pos k) (c : Int)) (by omega) (fun i hi => by rw [List.length_set]; exact hpl i hi) (zsim_set hs1 hpk)
          have e : zmcC (fun c => zholdb law least (l.set (pos k) (c : Int)) (pos k) (znxt pos n l.length k)) (fun c => zmc C law least pos n j (k + 1) (l.set (pos k) (c : Int))) (n2 + 1) c = zmc C law least pos n j (k + 1) (l1.set (pos k) (c : Int)) ++ zmcC (fun c => zholdb law least (l.set (pos k) (c : Int)) (pos k) (znxt pos n l.length k)) (fun c => zmc C law least pos n j (k + 1) (l.set (pos k) (c : Int))) n2 (c + 1) := by rw [zmcC, ← hhs, zholdb_t.mpr g, if_pos rfl, hms]
          rw [e, List.length_append] at hq
          rw [hms] at hX
          refine ih n2 (by omega) (c + 1) _ (s + (zmc C law least pos n j (k + 1) (l1.set (pos k) (c : Int))).length) _ l3 (by omega) (by rw [hms]; omega) W3 (zsim_up hs1 (by omega) s3) z3 c3 y3 F3 (fun υ l2 gf g1 g2 g3 g4 => zKe (hq υ l2 gf g1 g2 g3 (by rw [← zfb_app (fun q hq0 => by rw [zmc_all _ _ _ q hq0, hln2]; omega)]; exact g4)) (by omega))
        · skip
          refine r_if_eq k_67_101 (fun _ => ?_) (fun hz => absurd hz (by decide))
          refine r_iinc (v := (c : Int) + 1) (L' := [vR (4), vR (22), vR (26), vI ((n : Int)), vI ((k : Int)), vR (24), vI ((znxt pos n l.length k : Nat)), vI ((s : Int)), vI ((c : Int) + 1)]) k_67_122 rfl (zb_add ⟨by omega, by omega⟩) rfl ?_
          refine r_goto k_67_125 ?_
          obtain ⟨n2, rfl⟩ : ∃ n2, f0 = n2 + 1 := ⟨f0 - 1, by omega⟩
          have hhs := zhold_sim (law := law) (least := least) (fr := pos k) hmon (l := l.set (pos k) (c : Int)) (l2 := l1.set (pos k) (c : Int)) (k := k) (fun i hi => by rw [List.length_set]; exact hpl i hi) (zsim_set hs1 hpk)
          rw [List.length_set] at hhs
          have e : zmcC (fun c => zholdb law least (l.set (pos k) (c : Int)) (pos k) (znxt pos n l.length k)) (fun c => zmc C law least pos n j (k + 1) (l.set (pos k) (c : Int))) (n2 + 1) c = zmcC (fun c => zholdb law least (l.set (pos k) (c : Int)) (pos k) (znxt pos n l.length k)) (fun c => zmc C law least pos n j (k + 1) (l.set (pos k) (c : Int))) n2 (c + 1) := by rw [zmcC, ← hhs, zholdb_f.mpr g]; rfl
          rw [e] at hq
          exact ih n2 (by omega) (c + 1) τ2 s b1 (l1.set (pos k) (c : Int)) (by omega) (Nat.le_trans hsb (Nat.mul_le_mul_right 256 (Nat.le_succ c))) W2 (zsim_put hs1 (by omega)) z2 hc2 Z2_3 F2 hq
    show zG (d + 5) 67 K 0 zfx (0, [vR (4), vR (22), vR (26), vI ((n : Int)), vI ((k : Int)), vR (24), vU, vU, vU], [], σ)
    refine r_iload k_67_0 rfl ?_
    refine r_iload k_67_2 rfl ?_
    refine r_ic_ge k_67_3 (fun hz => absurd hz (by omega)) (fun _ => ?_)
    refine r_iload k_67_6 rfl ?_
    refine r_aload k_67_8 rfl ?_
    refine r_alen (n := 4) (g := 11) k_67_9 ⟨rfl, rfl⟩ ?_
    refine r_ic_lt k_67_10 (fun _ => ?_) (fun hz => absurd hz (by omega))
    refine r_iload k_67_33 rfl ?_
    refine r_const k_67_35 ?_
    refine r_bin (v := (k : Int) + 1) k_67_36 (zb_add ⟨by omega, by omega⟩) ?_
    refine r_iload k_67_37 rfl ?_
    refine r_ic_ge k_67_38 (fun h38 => ?_) (fun h38 => ?_)
    · skip
      refine r_aload k_67_59 rfl ?_
      refine r_getS (v := (l.length : Int)) k_67_60 ⟨rfl, rfl⟩ hz.1 ?_
      refine r_istore (L' := [vR (4), vR (22), vR (26), vI ((n : Int)), vI ((k : Int)), vR (24), vI ((l.length : Int)), vU, vU]) k_67_63 rfl ?_
      refine r_const k_67_65 ?_
      refine r_istore (L' := [vR (4), vR (22), vR (26), vI ((n : Int)), vI ((k : Int)), vR (24), vI ((l.length : Int)), vI (0), vU]) k_67_66 rfl ?_
      refine r_const k_67_68 ?_
      refine r_istore (L' := [vR (4), vR (22), vR (26), vI ((n : Int)), vI ((k : Int)), vR (24), vI ((l.length : Int)), vI (0), vI (0)]) k_67_69 rfl ?_
      have e : ((l.length : Int) : Int) = ((znxt pos n l.length k : Nat) : Int) := by unfold znxt; rw [if_neg (by omega)]
      rw [e]
      exact lp C 0 _ 0 _ _ (by omega) (by omega) hw (zsim_rf _ _ _ _) hz hc hy F0 (fun υ l2 gf g1 g2 g3 g4 => zKe (q1 υ l2 gf g1 g2 g3 g4) (by rw [zmc]; simp))
    · skip
      refine r_iload k_67_41 rfl ?_
      refine r_const k_67_43 ?_
      refine r_bin (v := (k : Int) + 1) k_67_44 (zb_add ⟨by omega, by omega⟩) ?_
      refine r_aload k_67_45 rfl ?_
      refine r_alen (n := 4) (g := 11) k_67_46 ⟨rfl, rfl⟩ ?_
      refine r_ic_ge k_67_47 (fun hz => absurd hz (by omega)) (fun _ => ?_)
      refine r_aload k_67_50 rfl ?_
      refine r_iload k_67_51 rfl ?_
      refine r_const k_67_53 ?_
      refine r_bin (v := (k : Int) + 1) k_67_54 (zb_add ⟨by omega, by omega⟩) ?_
      refine r_iald (v := (pos (k + 1) : Int)) k_67_55 ⟨rfl, rfl⟩ ⟨by omega, by omega⟩ (by rw [show ((k : Int) + 1 : Int).toNat = (k + 1) by omega]; exact hlo (k + 1) (by omega)) ?_
      refine r_goto k_67_56 ?_
      refine r_istore (L' := [vR (4), vR (22), vR (26), vI ((n : Int)), vI ((k : Int)), vR (24), vI ((pos (k + 1) : Int)), vU, vU]) k_67_63 rfl ?_
      refine r_const k_67_65 ?_
      refine r_istore (L' := [vR (4), vR (22), vR (26), vI ((n : Int)), vI ((k : Int)), vR (24), vI ((pos (k + 1) : Int)), vI (0), vU]) k_67_66 rfl ?_
      refine r_const k_67_68 ?_
      refine r_istore (L' := [vR (4), vR (22), vR (26), vI ((n : Int)), vI ((k : Int)), vR (24), vI ((pos (k + 1) : Int)), vI (0), vI (0)]) k_67_69 rfl ?_
      have e : ((pos (k + 1) : Int) : Int) = ((znxt pos n l.length k : Nat) : Int) := by unfold znxt; rw [if_pos (by omega)]
      rw [e]
      exact lp C 0 _ 0 _ _ (by omega) (by omega) hw (zsim_rf _ _ _ _) hz hc hy F0 (fun υ l2 gf g1 g2 g3 g4 => zKe (q1 υ l2 gf g1 g2 g3 g4) (by rw [zmc]; simp))
