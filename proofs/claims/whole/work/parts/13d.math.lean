/-! tallies; stretches of a shifted row -/
def zpw (c : Int) : Int := if c = 0 then 1 else if c = 1 then 65536 else if c = 2 then 4294967296 else 281474976710656
theorem zpw_b (c : Int) : 1 ≤ zpw c ∧ zpw c ≤ 281474976710656 := by unfold zpw; split <;> (try split) <;> (try split) <;> decide
theorem zlsh_pw {c : Int} (h0 : 0 ≤ c) (h4 : c < 4) : zlsh 0 1 (16 * c) = zpw c := by
  rcases (show c = 0 ∨ c = 1 ∨ c = 2 ∨ c = 3 by omega) with rfl | rfl | rfl | rfl <;> decide +kernel
def zsum (f : Nat → Int) (a : Nat) : Nat → Int
  | 0 => 0
  | m + 1 => zsum f a m + zpw (f (a + m))
theorem zsum_left (f : Nat → Int) (a : Nat) : ∀ m, zsum f a (m + 1) = zpw (f a) + zsum f (a + 1) m
  | 0 => by simp [zsum]
  | m + 1 => by
    have ih := zsum_left f a m
    rw [zsum, ih, zsum, show a + 1 + m = a + (m + 1) by omega]
    omega
theorem zsum_app (f : Nat → Int) (a m : Nat) : ∀ k, zsum f a (m + k) = zsum f a m + zsum f (a + m) k
  | 0 => by simp [zsum]
  | k + 1 => by
    rw [← Nat.add_assoc, zsum, zsum_app f a m k, zsum, show a + (m + k) = a + m + k by omega]
    omega
theorem zcnt_le (f : Nat → Int) (c : Int) (a : Nat) : ∀ m, zcnt f c a m ≤ m
  | 0 => Nat.le_refl _
  | m + 1 => by
    have := zcnt_le f c a m
    unfold zcnt
    split <;> omega
theorem zsum_cnt {f : Nat → Int} {a : Nat} : ∀ m, (∀ k, a ≤ k → k < a + m → 0 ≤ f k ∧ f k < 4) → zsum f a m = (zcnt f 0 a m : Int) + 65536 * (zcnt f 1 a m : Int) + 4294967296 * (zcnt f 2 a m : Int) + 281474976710656 * (zcnt f 3 a m : Int)
  | 0, _ => by simp [zsum, zcnt]
  | m + 1, h => by
    have ih := zsum_cnt m (fun k h1 h2 => h k h1 (by omega))
    have hb := h (a + m) (by omega) (by omega)
    unfold zsum zcnt
    rw [ih]
    rcases (show f (a + m) = 0 ∨ f (a + m) = 1 ∨ f (a + m) = 2 ∨ f (a + m) = 3 by omega) with e | e | e | e <;> rw [e] <;> simp [zpw] <;> omega
theorem zanyb_sum {f : Nat → Int} {n len : Nat} (h2 : 2 * len ≤ n) (hn : n ≤ 72) (hf : ∀ k, n - 2 * len ≤ k → k < n → 0 ≤ f k ∧ f k < 4) : zanyb f n len = true ↔ zsum f (n - 2 * len) (2 * len) = 2 * zsum f (n - len) len := by
  have e1 := zsum_app f (n - 2 * len) len len
  rw [show len + len = 2 * len by omega, show n - 2 * len + len = n - len by omega] at e1
  have e2 := zsum_cnt (f := f) (a := n - 2 * len) len (fun k g1 g2 => hf k g1 (by omega))
  have e3 := zsum_cnt (f := f) (a := n - len) len (fun k g1 g2 => hf k (by omega) (by omega))
  have b0 := zcnt_le f 0 (n - 2 * len) len
  have b1 := zcnt_le f 1 (n - 2 * len) len
  have b2 := zcnt_le f 2 (n - 2 * len) len
  have b3 := zcnt_le f 3 (n - 2 * len) len
  have d0 := zcnt_le f 0 (n - len) len
  have d1 := zcnt_le f 1 (n - len) len
  have d2 := zcnt_le f 2 (n - len) len
  have d3 := zcnt_le f 3 (n - len) len
  rw [e1, e2, e3]
  unfold zanyb
  rw [List.all_eq_true]
  constructor
  · intro h
    have g0 : zcnt f 0 (n - len) len = zcnt f 0 (n - 2 * len) len := of_decide_eq_true (h 0 (by decide))
    have g1 : zcnt f 1 (n - len) len = zcnt f 1 (n - 2 * len) len := of_decide_eq_true (h 1 (by decide))
    have g2 : zcnt f 2 (n - len) len = zcnt f 2 (n - 2 * len) len := of_decide_eq_true (h 2 (by decide))
    have g3 : zcnt f 3 (n - len) len = zcnt f 3 (n - 2 * len) len := of_decide_eq_true (h 3 (by decide))
    omega
  · intro h
    have q : zcnt f 0 (n - len) len = zcnt f 0 (n - 2 * len) len ∧ zcnt f 1 (n - len) len = zcnt f 1 (n - 2 * len) len ∧ zcnt f 2 (n - len) len = zcnt f 2 (n - 2 * len) len ∧ zcnt f 3 (n - len) len = zcnt f 3 (n - 2 * len) len := by omega
    intro c hc
    have hc := List.mem_range.mp hc
    apply decide_eq_true
    match c, hc with
    | 0, _ => exact q.1
    | 1, _ => exact q.2.1
    | 2, _ => exact q.2.2.1
    | 3, _ => exact q.2.2.2
theorem zsum_b (f : Nat → Int) (a : Nat) : ∀ m, 0 ≤ zsum f a m ∧ zsum f a m ≤ 281474976710656 * (m : Int)
  | 0 => by simp [zsum]
  | m + 1 => by
    have ih := zsum_b f a m
    have hb := zpw_b (f (a + m))
    unfold zsum
    omega
/-- a row from a place on -/
def zsh (f : Nat → Int) (a : Nat) : Nat → Int := fun k => f (a + k)
theorem zsh_zero (f : Nat → Int) : zsh f 0 = f := by funext k; unfold zsh; rw [Nat.zero_add]
theorem zeqb_sh {f : Nat → Int} {a n len : Nat} (h : 2 * len ≤ n) : zeqb (zsh f a) n len = zeqb f (a + n) len := by
  refine Bool.eq_iff_iff.mpr ?_
  rw [zeqb_t h, zeqb_t (by omega)]
  unfold zsh
  constructor
  · intro q k h1 h2
    have := q (k - a) (by omega) (by omega)
    rw [show a + (k - a) = k by omega, show a + (k - a - len) = k - len by omega] at this
    exact this
  · intro q k h1 h2
    have := q (a + k) (by omega) (by omega)
    rw [show a + k - len = a + (k - len) by omega] at this
    exact this
theorem zcnt_sh {f : Nat → Int} {c : Int} {a b : Nat} : ∀ m, zcnt (zsh f a) c b m = zcnt f c (a + b) m
  | 0 => rfl
  | m + 1 => by
    unfold zcnt
    rw [zcnt_sh m]
    unfold zsh
    rw [show a + (b + m) = a + b + m by omega]
theorem zanyb_sh {f : Nat → Int} {a n len : Nat} (h : 2 * len ≤ n) : zanyb (zsh f a) n len = zanyb f (a + n) len := by
  unfold zanyb
  simp only [zcnt_sh]
  rw [show a + (n - len) = a + n - len by omega, show a + (n - 2 * len) = a + n - 2 * len by omega]
