/-! what stretches, ends and faults are, as mathematics; frames -/
def zfr (S A : List Nat) (σ τ : zM) : Prop := (∀ n, n ∉ S → τ.1 n = σ.1 n) ∧ ∀ a, a ∉ A → τ.2 a = σ.2 a
theorem zfr_rf {S A : List Nat} {σ : zM} : zfr S A σ σ := ⟨fun _ _ => rfl, fun _ _ => rfl⟩
theorem zfr_tr {S A S' A' S'' A'' : List Nat} {σ τ υ : zM} (h1 : zfr S A σ τ) (h2 : zfr S' A' τ υ) (hS : ∀ n ∈ S ++ S', n ∈ S'') (hA : ∀ n ∈ A ++ A', n ∈ A'') : zfr S'' A'' σ υ :=
  ⟨fun n hn => (h2.1 n fun q => hn (hS n (List.mem_append_right _ q))).trans (h1.1 n fun q => hn (hS n (List.mem_append_left _ q))),
   fun n hn => (h2.2 n fun q => hn (hA n (List.mem_append_right _ q))).trans (h1.2 n fun q => hn (hA n (List.mem_append_left _ q)))⟩
theorem zfr_S {S A : List Nat} {σ τ : zM} {n : Nat} {v : Int} (h : zfr S A σ τ) (hn : n ∈ S) : zfr S A σ (zsetS τ n v) :=
  ⟨fun j hj => (zS_n (by intro q; subst q; exact hj hn)).trans (h.1 j hj), h.2⟩
theorem zfr_A {S A : List Nat} {σ τ : zM} {n : Nat} {f : Nat → Int} (h : zfr S A σ τ) (hn : n ∈ A) : zfr S A σ (zsetA τ n f) :=
  ⟨h.1, fun j hj => (zA_n (by intro q; subst q; exact hj hn)).trans (h.2 j hj)⟩
theorem zfr_w {S A S' A' : List Nat} {σ τ : zM} (h : zfr S A σ τ) (hS : ∀ n ∈ S, n ∈ S') (hA : ∀ n ∈ A, n ∈ A') : zfr S' A' σ τ :=
  ⟨fun n hn => h.1 n fun q => hn (hS n q), fun n hn => h.2 n fun q => hn (hA n q)⟩
/-- the first i from i0 on, as long as C holds, with P; 0 if there is none -/
def zfirst (C P : Nat → Bool) : Nat → Nat → Nat
  | 0, _ => 0
  | fu + 1, i => cond (C i) (cond (P i) i (zfirst C P fu (i + 1))) 0
def zeqb (f : Nat → Int) (n len : Nat) : Bool := (List.range len).all (fun k => decide (f (n - 1 - k) = f (n - 1 - k - len)))
/-- how many of c there are in f from a on, m places -/
def zcnt (f : Nat → Int) (c : Int) (a : Nat) : Nat → Nat
  | 0 => 0
  | m + 1 => zcnt f c a m + (if f (a + m) = c then 1 else 0)
def zanyb (f : Nat → Int) (n len : Nat) : Bool := (List.range 4).all (fun c => decide (zcnt f (c : Int) (n - len) len = zcnt f (c : Int) (n - 2 * len) len))
def zlike (law : Int) (f : Nat → Int) (n len : Nat) : Bool := if law = 2 then zanyb f n len else zeqb f n len
def zhit (law : Int) (f : Nat → Int) (n len : Nat) : Bool := zlike law f n len && (decide (law ≠ 1) || zlike law f (n - len) len)
def ztimes (law : Int) : Nat := if law = 1 then 3 else 2
def zstart (law least : Int) : Nat := if law = 3 then least.toNat else 1
/-- the shortest stretch that comes as the law forbids at the end of the first n -/
def zends (law least : Int) (f : Nat → Int) (n : Nat) : Nat := zfirst (fun len => decide (ztimes law * len ≤ n)) (zhit law f n) (n + 1) (zstart law least)
/-- the fewest of the first n that are not lawful -/
def zflt (law least : Int) (f : Nat → Int) (n : Nat) : Nat := zfirst (fun e => decide (e ≤ n)) (fun e => decide (zends law least f e ≠ 0)) (n + 1) 1
theorem zfirst_congr {C P C' P' : Nat → Bool} : ∀ (fu i : Nat), (∀ j, i ≤ j → C j = C' j) → (∀ j, i ≤ j → C j = true → P j = P' j) → zfirst C P fu i = zfirst C' P' fu i
  | 0, _, _, _ => rfl
  | fu + 1, i, hC, hP => by
    unfold zfirst
    rw [← hC i (Nat.le_refl i)]
    cases hc : C i with
    | false => rfl
    | true =>
      rw [← hP i (Nat.le_refl i) hc, zfirst_congr fu (i + 1) (fun j hj => hC j (by omega)) (fun j hj => hP j (by omega))]
theorem zfirst_out {C P : Nat → Bool} {fu i : Nat} (h : C i = false) : zfirst C P fu i = 0 := by
  cases fu with
  | zero => rfl
  | succ fu => unfold zfirst; rw [h]; rfl
theorem zfirst_hit {C P : Nat → Bool} {fu i : Nat} (h : C i = true) (hp : P i = true) : zfirst C P (fu + 1) i = i := by
  unfold zfirst; rw [h, hp]; rfl
theorem zfirst_on {C P : Nat → Bool} {fu i : Nat} (h : C i = true) (hp : P i = false) : zfirst C P (fu + 1) i = zfirst C P fu (i + 1) := by
  rw [zfirst, h, hp]; rfl
/-- what the first one is -/
theorem zfirst_spec {C P : Nat → Bool} : ∀ (fu i r : Nat), zfirst C P fu i = r → r ≠ 0 → i ≤ r ∧ r < i + fu ∧ C r = true ∧ P r = true ∧ ∀ j, i ≤ j → j < r → C j = true ∧ P j = false
  | 0, i, r, h, h0 => absurd h.symm h0
  | fu + 1, i, r, h, h0 => by
    cases hc : C i with
    | false => rw [zfirst_out hc] at h; exact absurd h.symm h0
    | true =>
      cases hp : P i with
      | true =>
        rw [zfirst_hit hc hp] at h
        subst h
        exact ⟨Nat.le_refl _, by omega, hc, hp, fun j h1 h2 => by omega⟩
      | false =>
        rw [zfirst_on hc hp] at h
        obtain ⟨h1, h2, h3, h4, h5⟩ := zfirst_spec fu (i + 1) r h h0
        refine ⟨by omega, by omega, h3, h4, fun j g1 g2 => ?_⟩
        by_cases hj : j = i
        · subst hj; exact ⟨hc, hp⟩
        · exact h5 j (by omega) g2
/-- none: every i that C reaches has not P (fuel enough) -/
theorem zfirst_none {C P : Nat → Bool} (hC0 : ∀ j k, j ≤ k → C k = true → C j = true) : ∀ (fu i : Nat), 0 < i → C (i + fu) = false → zfirst C P fu i = 0 → ∀ j, i ≤ j → C j = true → P j = false
  | 0, i, hi, hf, _, j, h1, h2 => by
    have := hC0 (i + 0) j h1 h2
    rw [hf] at this; cases this
  | fu + 1, i, hi, hf, h, j, h1, h2 => by
    have hc := hC0 i j h1 h2
    cases hp : P i with
    | true => rw [zfirst_hit hc hp] at h; omega
    | false =>
      by_cases hj : j = i
      · subst hj; exact hp
      · rw [zfirst_on hc hp] at h
        exact zfirst_none hC0 fu (i + 1) (by omega) (by rw [show i + 1 + fu = i + (fu + 1) by omega]; exact hf) h j (by omega) h2
theorem zfirst_none' {C P : Nat → Bool} : ∀ (fu i : Nat), (∀ j, i ≤ j → C j = true → P j = false) → zfirst C P fu i = 0
  | 0, _, _ => rfl
  | fu + 1, i, h => by
    cases hc : C i with
    | false => exact zfirst_out hc
    | true => rw [zfirst_on hc (h i (Nat.le_refl _) hc)]; exact zfirst_none' fu (i + 1) (fun j hj => h j (by omega))
/-- only the first n count -/
theorem zeqb_congr {f g : Nat → Int} {n len : Nat} (h : ∀ k, k < n → f k = g k) (h2 : len ≤ n) : zeqb f n len = zeqb g n len := by
  unfold zeqb
  refine Bool.eq_iff_iff.mpr ?_
  rw [List.all_eq_true, List.all_eq_true]
  constructor <;> intro q k hk <;> have hk2 := List.mem_range.mp hk <;> have q2 := of_decide_eq_true (q k hk) <;> apply decide_eq_true
  · rw [← h _ (by omega), ← h _ (by omega)]; exact q2
  · rw [h _ (by omega), h _ (by omega)]; exact q2
theorem zcnt_congr {f g : Nat → Int} {c : Int} {a : Nat} : ∀ (m : Nat), (∀ k, a ≤ k → k < a + m → f k = g k) → zcnt f c a m = zcnt g c a m
  | 0, _ => rfl
  | m + 1, h => by
    unfold zcnt
    rw [zcnt_congr m (fun k h1 h2 => h k h1 (by omega)), h (a + m) (by omega) (by omega)]
theorem zanyb_congr {f g : Nat → Int} {n len : Nat} (h : ∀ k, k < n → f k = g k) (h2 : 2 * len ≤ n) : zanyb f n len = zanyb g n len := by
  unfold zanyb
  have e1 : ∀ c : Int, zcnt f c (n - len) len = zcnt g c (n - len) len := fun c => zcnt_congr len (fun k h1 h3 => h k (by omega))
  have e2 : ∀ c : Int, zcnt f c (n - 2 * len) len = zcnt g c (n - 2 * len) len := fun c => zcnt_congr len (fun k h1 h3 => h k (by omega))
  simp only [e1, e2]
theorem zlike_congr {law : Int} {f g : Nat → Int} {n len : Nat} (h : ∀ k, k < n → f k = g k) (h2 : 2 * len ≤ n) : zlike law f n len = zlike law g n len := by
  unfold zlike
  rw [zeqb_congr h (by omega), zanyb_congr h h2]
theorem zhit_congr {law : Int} {f g : Nat → Int} {n len : Nat} (h : ∀ k, k < n → f k = g k) (h2 : ztimes law * len ≤ n) : zhit law f n len = zhit law g n len := by
  unfold zhit
  unfold ztimes at h2
  by_cases hl : law = 1
  · rw [if_pos hl] at h2
    rw [zlike_congr h (by omega), zlike_congr (n := n - len) (fun k hk => h k (by omega)) (by omega)]
  · rw [if_neg hl] at h2
    rw [zlike_congr h (by omega)]
    simp [hl]
theorem zends_congr {law least : Int} {f g : Nat → Int} {n : Nat} (h : ∀ k, k < n → f k = g k) : zends law least f n = zends law least g n :=
  zfirst_congr _ _ (fun _ _ => rfl) (fun j _ hj => zhit_congr h (of_decide_eq_true hj))
theorem zflt_congr {law least : Int} {f g : Nat → Int} {n : Nat} (h : ∀ k, k < n → f k = g k) : zflt law least f n = zflt law least g n :=
  zfirst_congr _ _ (fun _ _ => rfl) (fun j _ hj => by
    have hjn : j ≤ n := of_decide_eq_true hj
    rw [zends_congr (n := j) (fun k hk => h k (by omega))])
theorem zflt_0 {law least : Int} {f : Nat → Int} {n : Nat} : zflt law least f n = 0 ↔ ∀ e, 1 ≤ e → e ≤ n → zends law least f e = 0 := by
  constructor
  · intro h e h1 h2
    have := zfirst_none (C := fun e => decide (e ≤ n)) (fun j k hjk hk => decide_eq_true (Nat.le_trans hjk (of_decide_eq_true hk))) (n + 1) 1 (by decide) (by simp; omega) h e h1 (decide_eq_true h2)
    simpa using this
  · intro h
    refine zfirst_none' _ _ fun j h1 h2 => ?_
    have h3 : j ≤ n := of_decide_eq_true h2
    simp [h j h1 h3]
