/-! booleans as ints; repeats -/
def zb1 (b : Bool) : Int := cond b 1 0
theorem zb1_t {b : Bool} (h : b = true) : zb1 b = 1 := by rw [h]; rfl
theorem zb1_f {b : Bool} (h : b = false) : zb1 b = 0 := by rw [h]; rfl
theorem zb1_01 (b : Bool) : zb1 b = 0 ∨ zb1 b = 1 := by cases b; exact Or.inl rfl; exact Or.inr rfl
theorem zKt {K : zM → Option zV → Prop} {σ : zM} {b : Bool} (h : K σ (some (vI (zb1 b)))) (hb : b = true) : K σ (some (vI 1)) := by rw [hb] at h; exact h
theorem zKf {K : zM → Option zV → Prop} {σ : zM} {b : Bool} (h : K σ (some (vI (zb1 b)))) (hb : b = false) : K σ (some (vI 0)) := by rw [hb] at h; exact h
theorem zKe {K : zM → Option zV → Prop} {σ : zM} {x y : Int} (h : K σ (some (vI x))) (e : x = y) : K σ (some (vI y)) := e ▸ h
theorem zeqb_t {f : Nat → Int} {n len : Nat} (h2 : 2 * len ≤ n) : zeqb f n len = true ↔ ∀ k, n - len ≤ k → k < n → f k = f (k - len) := by
  unfold zeqb
  rw [List.all_eq_true]
  constructor
  · intro h k h1 h3
    have := of_decide_eq_true (h (n - 1 - k) (List.mem_range.mpr (by omega)))
    rw [show n - 1 - (n - 1 - k) = k by omega] at this
    exact this
  · intro h k hk
    have hk := List.mem_range.mp hk
    exact decide_eq_true (h (n - 1 - k) (by omega) (by omega))
theorem zeqb_f {f : Nat → Int} {n len k : Nat} (h2 : 2 * len ≤ n) (h1 : n - len ≤ k) (h3 : k < n) (h : f k ≠ f (k - len)) : zeqb f n len = false := by
  cases hb : zeqb f n len with
  | false => rfl
  | true => exact absurd ((zeqb_t h2).mp hb k h1 h3) h
theorem zN_sub {a b : Nat} (h : b ≤ a) : ((a : Int) - (b : Int)).toNat = a - b := by omega
