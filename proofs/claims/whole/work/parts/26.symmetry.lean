/-! no law tells colours apart -/
def zsw (a b c : Int) : Int := if c = a then b else if c = b then a else c
theorem zsw_i (a b c : Int) : zsw a b (zsw a b c) = c := by
  unfold zsw
  split <;> (try split) <;> (try split) <;> omega
theorem zsw_e {a b x y : Int} : zsw a b x = zsw a b y ↔ x = y :=
  ⟨fun h => by rw [← zsw_i a b x, h, zsw_i], fun h => by rw [h]⟩
theorem zsw_c {a b x c : Int} : zsw a b x = c ↔ x = zsw a b c :=
  ⟨fun h => by rw [← h, zsw_i], fun h => by rw [h, zsw_i]⟩
theorem zsw_b {a b c : Int} {n : Int} (ha : 0 ≤ a ∧ a < n) (hb : 0 ≤ b ∧ b < n) (hc : 0 ≤ c ∧ c < n) : 0 ≤ zsw a b c ∧ zsw a b c < n := by
  unfold zsw
  split <;> (try split) <;> omega
theorem zeqb_sw {f g : Nat → Int} {a b : Int} {n len : Nat} (h : ∀ k, k < n → g k = zsw a b (f k)) (h2 : 2 * len ≤ n) : zeqb g n len = zeqb f n len := by
  refine Bool.eq_iff_iff.mpr ?_
  rw [zeqb_t h2, zeqb_t h2]
  constructor
  · intro q k h1 h3
    have := q k h1 h3
    rw [h k h3, h (k - len) (by omega), zsw_e] at this
    exact this
  · intro q k h1 h3
    rw [h k h3, h (k - len) (by omega), zsw_e]
    exact q k h1 h3
theorem zcnt_sw {f g : Nat → Int} {a b c : Int} {s : Nat} : ∀ (m : Nat), (∀ k, k < s + m → g k = zsw a b (f k)) → zcnt g c s m = zcnt f (zsw a b c) s m
  | 0, _ => rfl
  | m + 1, h => by
    unfold zcnt
    rw [zcnt_sw m (fun k hk => h k (by omega)), h (s + m) (by omega)]
    congr 1
    by_cases q : f (s + m) = zsw a b c
    · rw [if_pos q, if_pos (zsw_c.mpr q)]
    · rw [if_neg q, if_neg (fun q2 => q (zsw_c.mp q2))]
theorem zanyb_t {f : Nat → Int} {n len : Nat} : zanyb f n len = true ↔ ∀ c : Int, 0 ≤ c → c < 4 → zcnt f c (n - len) len = zcnt f c (n - 2 * len) len := by
  unfold zanyb
  rw [List.all_eq_true]
  constructor
  · intro h c h0 h4
    have := of_decide_eq_true (h c.toNat (List.mem_range.mpr (by omega)))
    rw [Int.toNat_of_nonneg h0] at this
    exact this
  · intro h c hc
    have := List.mem_range.mp hc
    exact decide_eq_true (h c (by omega) (by omega))
theorem zanyb_sw {f g : Nat → Int} {a b : Int} {n len : Nat} (ha : 0 ≤ a ∧ a < 4) (hb : 0 ≤ b ∧ b < 4) (h : ∀ k, k < n → g k = zsw a b (f k)) (h2 : 2 * len ≤ n) : zanyb g n len = zanyb f n len := by
  refine Bool.eq_iff_iff.mpr ?_
  rw [zanyb_t, zanyb_t]
  have e1 : ∀ c, zcnt g c (n - len) len = zcnt f (zsw a b c) (n - len) len := fun c => zcnt_sw len (fun k hk => h k (by omega))
  have e2 : ∀ c, zcnt g c (n - 2 * len) len = zcnt f (zsw a b c) (n - 2 * len) len := fun c => zcnt_sw len (fun k hk => h k (by omega))
  constructor
  · intro q c h0 h4
    have hs := zsw_b ha hb ⟨h0, h4⟩
    have := q (zsw a b c) hs.1 hs.2
    rw [e1, e2, zsw_i] at this
    exact this
  · intro q c h0 h4
    have hs := zsw_b ha hb ⟨h0, h4⟩
    rw [e1, e2]
    exact q _ hs.1 hs.2
theorem zlike_sw {law : Int} {f g : Nat → Int} {a b : Int} {n len : Nat} (ha : 0 ≤ a ∧ a < 4) (hb : 0 ≤ b ∧ b < 4) (h : ∀ k, k < n → g k = zsw a b (f k)) (h2 : 2 * len ≤ n) : zlike law g n len = zlike law f n len := by
  unfold zlike
  rw [zeqb_sw h h2, zanyb_sw ha hb h h2]
theorem zhit_sw {law : Int} {f g : Nat → Int} {a b : Int} {n len : Nat} (ha : 0 ≤ a ∧ a < 4) (hb : 0 ≤ b ∧ b < 4) (h : ∀ k, k < n → g k = zsw a b (f k)) (h2 : ztimes law * len ≤ n) : zhit law g n len = zhit law f n len := by
  unfold zhit
  unfold ztimes at h2
  by_cases hl : law = 1
  · rw [if_pos hl] at h2
    rw [zlike_sw ha hb h (by omega), zlike_sw (n := n - len) ha hb (fun k hk => h k (by omega)) (by omega)]
  · rw [if_neg hl] at h2
    rw [zlike_sw ha hb h (by omega)]
    simp [hl]
theorem zends_sw {law least : Int} {f g : Nat → Int} {a b : Int} {n : Nat} (ha : 0 ≤ a ∧ a < 4) (hb : 0 ≤ b ∧ b < 4) (h : ∀ k, k < n → g k = zsw a b (f k)) : zends law least g n = zends law least f n :=
  zfirst_congr _ _ (fun _ _ => rfl) (fun j _ hj => zhit_sw ha hb h (of_decide_eq_true hj))
theorem zlf_map {l : List Int} {a b : Int} {k : Nat} (h : k < l.length) : zlf (l.map (zsw a b)) k = zsw a b (zlf l k) := by
  unfold zlf
  rw [List.getD_eq_getElem?_getD, List.getD_eq_getElem?_getD, List.getElem?_map, List.getElem?_eq_getElem h]
  rfl
theorem zend_sw {law least : Int} {l : List Int} {a b : Int} (ha : 0 ≤ a ∧ a < 4) (hb : 0 ≤ b ∧ b < 4) : zend law least (l.map (zsw a b)) = zend law least l := by
  unfold zend
  rw [List.length_map]
  exact zends_sw ha hb fun k hk => zlf_map hk
def zringb (law least : Int) (l : List Int) : Bool := (List.range l.length).all (fun i => decide (zends law least (zsh (zlf (l ++ l)) i) l.length = 0))
theorem zringb_t {law least : Int} {l : List Int} : zringb law least l = true ↔ zring law least l := by
  unfold zringb zring
  rw [List.all_eq_true]
  exact ⟨fun h i hi => of_decide_eq_true (h i (List.mem_range.mpr hi)), fun h i hi => decide_eq_true (h i (List.mem_range.mp hi))⟩
theorem zringb_f {law least : Int} {l : List Int} : zringb law least l = false ↔ ¬ zring law least l := by
  rw [← zringb_t]; cases zringb law least l <;> simp
theorem zringb_sw {law least : Int} {l : List Int} {a b : Int} (ha : 0 ≤ a ∧ a < 4) (hb : 0 ≤ b ∧ b < 4) : zringb law least (l.map (zsw a b)) = zringb law least l := by
  unfold zringb
  rw [List.length_map, ← List.map_append]
  refine Bool.eq_iff_iff.mpr ?_
  rw [List.all_eq_true, List.all_eq_true]
  have e : ∀ i, i < l.length → zends law least (zsh (zlf ((l ++ l).map (zsw a b))) i) l.length = zends law least (zsh (zlf (l ++ l)) i) l.length := fun i hi => zends_sw ha hb fun k hk => zlf_map (by rw [List.length_append]; omega)
  constructor <;> intro q i hi <;> have := q i hi <;> have hi2 := List.mem_range.mp hi
  · rw [e i hi2] at this; exact this
  · rw [e i hi2]; exact this
/-- the sum of the first n -/
def zsm (f : Nat → Nat) : Nat → Nat
  | 0 => 0
  | n + 1 => zsm f n + f n
theorem zsm_congr {f g : Nat → Nat} : ∀ n, (∀ k, k < n → f k = g k) → zsm f n = zsm g n
  | 0, _ => rfl
  | n + 1, h => by unfold zsm; rw [zsm_congr n (fun k hk => h k (by omega)), h n (by omega)]
theorem zsm_le {f : Nat → Nat} {B : Nat} : ∀ n, (∀ k, k < n → f k ≤ B) → zsm f n ≤ n * B
  | 0, _ => by simp [zsm]
  | n + 1, h => by
    have := zsm_le n (fun k hk => h k (by omega))
    have := h n (by omega)
    unfold zsm
    rw [Nat.add_mul]; omega
/-- the sum is the same when two terms are taken for one another -/
theorem zsm_sw {f : Nat → Nat} {C a b : Nat} (hC : C ≤ 4) (ha : a < C) (hb : b < C) : zsm (fun c => f (zsw a b c).toNat) C = zsm f C := by
  have e : ∀ n, n ≤ 4 → zsm f n = (if 0 < n then f 0 else 0) + (if 1 < n then f 1 else 0) + (if 2 < n then f 2 else 0) + (if 3 < n then f 3 else 0) := by
    intro n hn
    rcases (show n = 0 ∨ n = 1 ∨ n = 2 ∨ n = 3 ∨ n = 4 by omega) with h | h | h | h | h <;> subst h <;> simp [zsm]
  have e2 : ∀ n, n ≤ 4 → zsm (fun c => f (zsw a b c).toNat) n = (if 0 < n then f (zsw a b 0).toNat else 0) + (if 1 < n then f (zsw a b 1).toNat else 0) + (if 2 < n then f (zsw a b 2).toNat else 0) + (if 3 < n then f (zsw a b 3).toNat else 0) := by
    intro n hn
    rcases (show n = 0 ∨ n = 1 ∨ n = 2 ∨ n = 3 ∨ n = 4 by omega) with h | h | h | h | h <;> subst h <;> simp [zsm]
  rw [e C hC, e2 C hC]
  have ha4 : a = 0 ∨ a = 1 ∨ a = 2 ∨ a = 3 := by omega
  have hb4 : b = 0 ∨ b = 1 ∨ b = 2 ∨ b = 3 := by omega
  have hC4 : C = 1 ∨ C = 2 ∨ C = 3 ∨ C = 4 := by omega
  rcases hC4 with h | h | h | h <;> subst h <;> rcases ha4 with h | h | h | h <;> subst h <;> rcases hb4 with h | h | h | h <;> subst h <;> first | omega | (simp [zsw] <;> omega) | simp [zsw]
/-- how many rows behind l, m more, with Q -/
def zct (C : Nat) (law least : Int) (Q : List Int → Bool) : Nat → List Int → Nat
  | 0, l => if Q l = true then 1 else 0
  | m + 1, l => zsm (fun c => if zend law least (l ++ [(c : Int)]) = 0 then zct C law least Q m (l ++ [(c : Int)]) else 0) C
theorem zct_le {C : Nat} {law least : Int} {Q : List Int → Bool} (hC : C ≤ 4) : ∀ (m : Nat) (l : List Int), zct C law least Q m l ≤ 4 ^ m
  | 0, l => by unfold zct; split <;> simp
  | m + 1, l => by
    unfold zct
    have h := zsm_le (f := fun c => if zend law least (l ++ [(c : Int)]) = 0 then zct C law least Q m (l ++ [(c : Int)]) else 0) (B := 4 ^ m) C (fun k _ => by
      have := zct_le (law := law) (least := least) (Q := Q) hC m (l ++ [(k : Int)])
      show (if zend law least (l ++ [(k : Int)]) = 0 then zct C law least Q m (l ++ [(k : Int)]) else 0) ≤ 4 ^ m
      split <;> omega)
    have h2 : C * 4 ^ m ≤ 4 * 4 ^ m := Nat.mul_le_mul_right _ hC
    rw [Nat.pow_succ]
    omega
theorem zct_b {C : Nat} {law least : Int} {Q : List Int → Bool} (hC : C ≤ 4) {m : Nat} (hm : m ≤ 9) (l : List Int) : zct C law least Q m l ≤ 262144 :=
  Nat.le_trans (zct_le hC m l) (Nat.le_trans (Nat.pow_le_pow_right (by decide) hm) (by decide))
theorem zct_sw {C : Nat} {law least : Int} {Q : List Int → Bool} {a b : Nat} (hC : C ≤ 4) (ha : a < C) (hb : b < C) (hQ : ∀ l, Q (l.map (zsw a b)) = Q l) : ∀ (m : Nat) (l : List Int), zct C law least Q m (l.map (zsw a b)) = zct C law least Q m l
  | 0, l => by unfold zct; rw [hQ]
  | m + 1, l => by
    unfold zct
    rw [← zsm_sw hC ha hb]
    refine zsm_congr C fun c hc => ?_
    have hs := zsw_b (a := a) (b := b) (c := c) (n := C) (by omega) (by omega) (by omega)
    show (if zend law least (l.map (zsw a b) ++ [(((zsw a b c).toNat : Nat) : Int)]) = 0 then zct C law least Q m (l.map (zsw a b) ++ [(((zsw a b c).toNat : Nat) : Int)]) else 0) = _
    rw [Int.toNat_of_nonneg hs.1]
    have e : l.map (zsw a b) ++ [zsw a b c] = (l ++ [(c : Int)]).map (zsw a b) := by rw [List.map_append]; rfl
    rw [e, zend_sw (by omega) (by omega), zct_sw hC ha hb hQ m]
theorem zsw_id {l : List Int} {u c : Nat} (h : ∀ x ∈ l, x < (u : Int)) (huc : u ≤ c) : l.map (zsw u c) = l := by
  have e : l.map (zsw u c) = l.map id := List.map_congr_left fun x hx => by
    have := h x hx
    show zsw u c x = x
    unfold zsw
    rw [if_neg (by omega), if_neg (by omega)]
  rw [e, List.map_id]
theorem zsw_ap {l : List Int} {u c : Nat} (h : ∀ x ∈ l, x < (u : Int)) (huc : u ≤ c) : l ++ [(c : Int)] = (l ++ [(u : Int)]).map (zsw u c) := by
  rw [List.map_append, zsw_id h huc]
  show l ++ [(c : Int)] = l ++ [zsw u c u]
  rw [show zsw u c u = c from if_pos rfl]
theorem zend_ge {law least : Int} {l : List Int} {u c : Nat} (h : ∀ x ∈ l, x < (u : Int)) (huc : u ≤ c) (hc : c < 4) : zend law least (l ++ [(c : Int)]) = zend law least (l ++ [(u : Int)]) := by
  rw [zsw_ap h huc, zend_sw (by omega) (by omega)]
theorem zct_ge {C : Nat} {law least : Int} {Q : List Int → Bool} {l : List Int} {u c : Nat} (hC : C ≤ 4) (hQ : ∀ (a b : Nat) l, a < 4 → b < 4 → Q (l.map (zsw a b)) = Q l) (h : ∀ x ∈ l, x < (u : Int)) (huc : u ≤ c) (hc : c < C) (m : Nat) : zct C law least Q m (l ++ [(c : Int)]) = zct C law least Q m (l ++ [(u : Int)]) := by
  rw [zsw_ap h huc, zct_sw hC (by omega) hc (fun l => hQ u c l (by omega) (by omega))]
theorem zsm_const {f : Nat → Nat} {u : Nat} : ∀ n, (∀ k, u ≤ k → k < u + n → f k = f u) → zsm f (u + n) = zsm f u + n * f u
  | 0, _ => by simp
  | n + 1, h => by
    have ih := zsm_const n (fun k h1 h2 => h k h1 (by omega))
    rw [← Nat.add_assoc, zsm, ih, h (u + n) (by omega) (by omega), Nat.add_mul]
    omega
/-- the sum over the colours that the class tries, c of them -/
def zps (C : Nat) (law least : Int) (Q : List Int → Bool) (m : Nat) (l : List Int) (u c : Nat) : Nat :=
  zsm (fun k => if zend law least (l ++ [(k : Int)]) = 0 then (if k < u then 1 else C - u) * zct C law least Q m (l ++ [(k : Int)]) else 0) c
theorem zps_all {C : Nat} {law least : Int} {Q : List Int → Bool} {m : Nat} {l : List Int} {u : Nat} (hC : C ≤ 4) (hQ : ∀ (a b : Nat) l, a < 4 → b < 4 → Q (l.map (zsw a b)) = Q l) (h : ∀ x ∈ l, x < (u : Int)) (hu : u ≤ C) : zps C law least Q m l u (min (u + 1) C) = zct C law least Q (m + 1) l := by
  unfold zps
  rw [zct]
  by_cases huC : u = C
  · subst huC
    rw [show min (u + 1) u = u by omega]
    refine zsm_congr u fun k hk => ?_
    rw [if_pos hk, Nat.one_mul]
  · rw [show min (u + 1) C = u + 1 by omega, zsm]
    have e := zsm_const (f := fun c => if zend law least (l ++ [(c : Int)]) = 0 then zct C law least Q m (l ++ [(c : Int)]) else 0) (u := u) (C - u) (fun k h1 h2 => by
      show (if zend law least (l ++ [(k : Int)]) = 0 then zct C law least Q m (l ++ [(k : Int)]) else 0) = (if zend law least (l ++ [(u : Int)]) = 0 then zct C law least Q m (l ++ [(u : Int)]) else 0)
      rw [zend_ge h h1 (by omega), zct_ge hC hQ h h1 (by omega)])
    rw [show u + (C - u) = C by omega] at e
    rw [e]
    have e1 : zsm (fun k => if zend law least (l ++ [(k : Int)]) = 0 then (if k < u then 1 else C - u) * zct C law least Q m (l ++ [(k : Int)]) else 0) u = zsm (fun c => if zend law least (l ++ [(c : Int)]) = 0 then zct C law least Q m (l ++ [(c : Int)]) else 0) u := zsm_congr u fun k hk => by rw [if_pos hk, Nat.one_mul]
    rw [e1]
    congr 1
    rw [if_neg (Nat.lt_irrefl u)]
    split
    · rfl
    · rw [Nat.mul_zero]
theorem zps_b {C : Nat} {law least : Int} {Q : List Int → Bool} {m : Nat} {l : List Int} {u : Nat} (hC : C ≤ 4) (hm : m ≤ 9) (hu : u ≤ C) (c : Nat) : zps C law least Q m l u c ≤ c * 1048576 := by
  refine zsm_le c fun k _ => ?_
  show (if zend law least (l ++ [(k : Int)]) = 0 then (if k < u then 1 else C - u) * zct C law least Q m (l ++ [(k : Int)]) else 0) ≤ 1048576
  have h1 := zct_b (law := law) (least := least) (Q := Q) hC hm (l ++ [(k : Int)])
  split
  · split
    · omega
    · have := Nat.mul_le_mul (show C - u ≤ 4 by omega) h1
      omega
  · omega
/-- the first row behind l, m more, with Q -/
def zfdC (law least : Int) (G : Nat → Option (List Int)) (l : List Int) : Nat → Nat → Option (List Int)
  | 0, _ => none
  | n + 1, c => match (if zend law least (l ++ [(c : Int)]) = 0 then G c else none) with
    | some q => some q
    | none => zfdC law least G l n (c + 1)
def zfd (C : Nat) (law least : Int) (Q : List Int → Bool) : Nat → List Int → Option (List Int)
  | 0, l => if Q l = true then some l else none
  | m + 1, l => zfdC law least (fun c => zfd C law least Q m (l ++ [(c : Int)])) l C 0
theorem zfdC_s {law least : Int} {G : Nat → Option (List Int)} {l : List Int} {n c : Nat} {q : List Int} (h : zend law least (l ++ [(c : Int)]) = 0) (hq : G c = some q) : zfdC law least G l (n + 1) c = some q := by
  unfold zfdC; rw [if_pos h, hq]
theorem zfdC_n {law least : Int} {G : Nat → Option (List Int)} {l : List Int} {n c : Nat} (h : zend law least (l ++ [(c : Int)]) = 0 → G c = none) : zfdC law least G l (n + 1) c = zfdC law least G l n (c + 1) := by
  rw [zfdC]
  by_cases hz : zend law least (l ++ [(c : Int)]) = 0
  · rw [if_pos hz, h hz]
  · rw [if_neg hz]
theorem zfdC_0 {law least : Int} {G : Nat → Option (List Int)} {l : List Int} : ∀ (n c : Nat), zfdC law least G l n c = none ↔ ∀ k, c ≤ k → k < c + n → zend law least (l ++ [(k : Int)]) = 0 → G k = none
  | 0, c => ⟨fun _ k h1 h2 => by omega, fun _ => rfl⟩
  | n + 1, c => by
    have ih := zfdC_0 (law := law) (least := least) (G := G) (l := l) n (c + 1)
    by_cases hz : zend law least (l ++ [(c : Int)]) = 0
    · cases hg : G c with
      | some q =>
        rw [zfdC_s hz hg]
        exact ⟨fun h => (nomatch h), fun h => (by have := h c (Nat.le_refl _) (by omega) hz; rw [hg] at this; cases this)⟩
      | none =>
        rw [zfdC_n (fun _ => hg), ih]
        refine ⟨fun h k h1 h2 h3 => ?_, fun h k h1 h2 h3 => h k (by omega) (by omega) h3⟩
        by_cases hk : k = c
        · subst hk; exact hg
        · exact h k (by omega) (by omega) h3
    · rw [zfdC_n (fun h => absurd h hz), ih]
      refine ⟨fun h k h1 h2 h3 => ?_, fun h k h1 h2 h3 => h k (by omega) (by omega) h3⟩
      by_cases hk : k = c
      · subst hk; exact absurd h3 hz
      · exact h k (by omega) (by omega) h3
theorem zsm_0 {f : Nat → Nat} : ∀ n, zsm f n = 0 ↔ ∀ k, k < n → f k = 0
  | 0 => ⟨fun _ k h => by omega, fun _ => rfl⟩
  | n + 1 => by
    have ih := zsm_0 (f := f) n
    unfold zsm
    constructor
    · intro h k hk
      by_cases hkn : k = n
      · subst hkn; omega
      · exact ih.mp (by omega) k (by omega)
    · intro h
      have h1 := ih.mpr fun k hk => h k (by omega)
      have h2 := h n (by omega)
      omega
theorem zfd_ct {C : Nat} {law least : Int} {Q : List Int → Bool} : ∀ (m : Nat) (l : List Int), zfd C law least Q m l = none ↔ zct C law least Q m l = 0
  | 0, l => by unfold zfd zct; split <;> simp
  | m + 1, l => by
    unfold zfd zct
    rw [zfdC_0, zsm_0]
    constructor
    · intro h k hk
      show (if zend law least (l ++ [(k : Int)]) = 0 then zct C law least Q m (l ++ [(k : Int)]) else 0) = 0
      split
      · next hz => exact (zfd_ct m _).mp (h k (by omega) (by omega) hz)
      · rfl
    · intro h k h1 h2 h3
      have : (if zend law least (l ++ [(k : Int)]) = 0 then zct C law least Q m (l ++ [(k : Int)]) else 0) = 0 := h k (by omega)
      rw [if_pos h3] at this
      exact (zfd_ct m _).mpr this
theorem zfdC_app {law least : Int} {G : Nat → Option (List Int)} {l : List Int} {b : Nat} : ∀ (a c : Nat), (∀ k, c + a ≤ k → k < c + a + b → zend law least (l ++ [(k : Int)]) = 0 → G k = none) → zfdC law least G l (a + b) c = zfdC law least G l a c
  | 0, c, h => by
    rw [Nat.zero_add]
    exact (zfdC_0 b c).mpr h
  | a + 1, c, h => by
    have ih := zfdC_app (law := law) (least := least) (G := G) (l := l) (b := b) a (c + 1) (fun k h1 h2 => h k (by omega) (by omega))
    rw [show a + 1 + b = (a + b) + 1 by omega, zfdC, zfdC, ih]
/-- the class tries no more colours than it must -/
theorem zfd_all {C : Nat} {law least : Int} {Q : List Int → Bool} {m : Nat} {l : List Int} {u : Nat} (hC : C ≤ 4) (hQ : ∀ (a b : Nat) l, a < 4 → b < 4 → Q (l.map (zsw a b)) = Q l) (h : ∀ x ∈ l, x < (u : Int)) (hu : u ≤ C) (hnone : u < C → zend law least (l ++ [(u : Int)]) = 0 → zfd C law least Q m (l ++ [(u : Int)]) = none) : zfd C law least Q (m + 1) l = zfdC law least (fun c => zfd C law least Q m (l ++ [(c : Int)])) l u 0 := by
  show zfdC law least (fun c => zfd C law least Q m (l ++ [(c : Int)])) l C 0 = _
  have e := zfdC_app (law := law) (least := least) (G := fun c => zfd C law least Q m (l ++ [(c : Int)])) (l := l) (b := C - u) u 0 (fun k h1 h2 h3 => by
    rw [zend_ge h (by omega) (by omega)] at h3
    have := hnone (by omega) h3
    rw [zfd_ct] at this
    show zfd C law least Q m (l ++ [(k : Int)]) = none
    rw [zfd_ct, zct_ge hC hQ h (by omega) (by omega)]
    exact this)
  rw [show u + (C - u) = C by omega] at e
  exact e
