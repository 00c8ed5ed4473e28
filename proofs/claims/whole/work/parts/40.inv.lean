/-! what the two keep alike, between calls -/
def zgd (C : Nat) (law least draw : Int) (l : List Int) (p : Nat → Int) : Prop :=
  zbd C law least ∧ (0 ≤ draw ∧ draw < 2147483648) ∧ l.length ≤ 48 ∧ (∀ x ∈ l, 0 ≤ x ∧ x < (C : Int)) ∧ ∀ k, k < 4 → 0 ≤ p k ∧ p k ≤ 99
def zXn (σ : zM) (C : Nat) (law least draw : Int) (l : List Int) (p : Nat → Int) : Prop := zrl σ C law least ∧ zis σ 0 l ∧ zpr σ p ∧ σ.1 10 = draw
def zXk (σ : zM) (C : Nat) (law least draw : Int) (l : List Int) (p : Nat → Int) : Prop := (σ.1 7 = (C : Int) ∧ σ.1 8 = law ∧ σ.1 9 = least) ∧ zis σ 1 l ∧ (∀ k, k < 4 → σ.2 5 k = p k) ∧ σ.1 11 = draw
def zYn (a : Nat → Int) (C : Nat) (law least draw : Int) (l : List Int) (p : Nat → Int) : Prop :=
  a 0 = (C : Int) ∧ a 1 = law ∧ a 2 = least ∧ a 3 = draw ∧ a 4 = (l.length : Int) ∧ (∀ k, k < 4 → a (5 + k) = p k) ∧ ∀ k, k < l.length → a (9 + k) = zlf l k
def zIn (σ : zM) : Prop := ∃ (C : Nat) (law least draw : Int) (l : List Int) (p : Nat → Int), zgd C law least draw l p ∧ zXn σ C law least draw l p ∧ zYn (σ.2 12) C law least draw l p
def zIk (σ : zM) : Prop := (σ.1 12 = 0 ∧ σ.1 22 = 0) ∨ (σ.1 12 = 1 ∧ σ.1 22 = 1 ∧ ∃ (C : Nat) (law least draw : Int) (l : List Int) (p : Nat → Int), zgd C law least draw l p ∧ zXk σ C law least draw l p ∧ zYn (σ.2 13) C law least draw l p)
def zIt (σ : zM) : Prop := 0 ≤ σ.1 13 ∧ σ.1 13 ≤ 100 ∧ σ.1 23 = σ.1 13 ∧ ∀ k : Nat, (k : Int) < σ.1 13 → σ.2 14 k = σ.2 6 k ∧ 32 ≤ σ.2 6 k ∧ σ.2 6 k ≤ 126
def zIh (σ : zM) : Prop := ∀ s, s < 4 → (-1 ≤ σ.1 (15 + 2 * s) ∧ σ.1 (15 + 2 * s) ≤ 48) ∧ σ.2 15 s = σ.1 (15 + 2 * s) ∧ (0 ≤ σ.1 (14 + 2 * s) ∧ σ.1 (14 + 2 * s) ≤ 2) ∧ σ.2 16 s = σ.1 (14 + 2 * s) ∧ ∀ k, k < 48 → σ.2 17 (48 * s + k) = σ.2 (7 + s) k
def zInv (σ : zM) : Prop := zIn σ ∧ zIk σ ∧ zIt σ ∧ zIh σ
theorem zIn_fr {S A : List Nat} {σ τ : zM} (h : zIn σ) (hf : zfr S A σ τ) (hS : 0 ∉ S ∧ 4 ∉ S ∧ 5 ∉ S ∧ 6 ∉ S ∧ 10 ∉ S) (hA : 0 ∉ A ∧ 4 ∉ A ∧ 12 ∉ A) : zIn τ := by
  obtain ⟨C, law, least, draw, l, p, h1, ⟨h2, h3, h4, h5⟩, h6⟩ := h
  exact ⟨C, law, least, draw, l, p, h1, ⟨zrl_fr h2 hf ⟨hS.2.1, hS.2.2.1, hS.2.2.2.1⟩, zis_fr h3 hf hS.1 hA.1, zpr_fr h4 hf hA.2.1, (hf.1 10 hS.2.2.2.2).trans h5⟩, by rw [hf.2 12 hA.2.2]; exact h6⟩
theorem zIk_fr {S A : List Nat} {σ τ : zM} (h : zIk σ) (hf : zfr S A σ τ) (hS : 12 ∉ S ∧ 22 ∉ S ∧ 7 ∉ S ∧ 8 ∉ S ∧ 9 ∉ S ∧ 1 ∉ S ∧ 11 ∉ S) (hA : 1 ∉ A ∧ 5 ∉ A ∧ 13 ∉ A) : zIk τ := by
  obtain ⟨a1, a2, a3, a4, a5, a6, a7⟩ := hS
  rcases h with h | ⟨h1, h2, C, law, least, draw, l, p, h3, ⟨⟨h4, h5, h6⟩, h7, h8, h9⟩, h10⟩
  · exact Or.inl ⟨(hf.1 12 a1).trans h.1, (hf.1 22 a2).trans h.2⟩
  · exact Or.inr ⟨(hf.1 12 a1).trans h1, (hf.1 22 a2).trans h2, C, law, least, draw, l, p, h3, ⟨⟨(hf.1 7 a3).trans h4, (hf.1 8 a4).trans h5, (hf.1 9 a5).trans h6⟩, zis_fr h7 hf a6 hA.1, fun k hk => by rw [hf.2 5 hA.2.1]; exact h8 k hk, (hf.1 11 a7).trans h9⟩, by rw [hf.2 13 hA.2.2]; exact h10⟩
theorem zIt_fr {S A : List Nat} {σ τ : zM} (h : zIt σ) (hf : zfr S A σ τ) (hS : 13 ∉ S ∧ 23 ∉ S) (hA : 6 ∉ A ∧ 14 ∉ A) : zIt τ := by
  unfold zIt
  rw [hf.1 13 hS.1, hf.1 23 hS.2, hf.2 6 hA.1, hf.2 14 hA.2]
  exact h
theorem zIh_fr {S A : List Nat} {σ τ : zM} (h : zIh σ) (hf : zfr S A σ τ) (hS : ∀ n ∈ S, n < 14 ∨ 21 < n) (hA : ∀ n ∈ A, n < 7 ∨ (10 < n ∧ n < 15) ∨ 17 < n) : zIh τ := by
  intro s hs
  have e1 := hf.1 (15 + 2 * s) (fun q => by have := hS _ q; omega)
  have e2 := hf.1 (14 + 2 * s) (fun q => by have := hS _ q; omega)
  have e3 := hf.2 (7 + s) (fun q => by have := hA _ q; omega)
  rw [e1, e2, e3, hf.2 15 (fun q => by have := hA _ q; omega), hf.2 16 (fun q => by have := hA _ q; omega), hf.2 17 (fun q => by have := hA _ q; omega)]
  exact h s hs
/-- what only searches write changes nothing -/
theorem zInv_fr {S A : List Nat} {σ τ : zM} (h : zInv σ) (hf : zfr S A σ τ) (hS : ∀ n ∈ S, n = 2 ∨ n = 3) (hA : ∀ n ∈ A, n = 2 ∨ n = 3 ∨ n = 11 ∨ 17 < n) : zInv τ := by
  have s : ∀ n, n ≠ 2 → n ≠ 3 → n ∉ S := fun n h1 h2 q => by have := hS n q; omega
  have a : ∀ n, n ≠ 2 → n ≠ 3 → n ≠ 11 → n ≤ 17 → n ∉ A := fun n h1 h2 h3 h4 q => by have := hA n q; omega
  exact ⟨zIn_fr h.1 hf ⟨s 0 (by decide) (by decide), s 4 (by decide) (by decide), s 5 (by decide) (by decide), s 6 (by decide) (by decide), s 10 (by decide) (by decide)⟩ ⟨a 0 (by decide) (by decide) (by decide) (by decide), a 4 (by decide) (by decide) (by decide) (by decide), a 12 (by decide) (by decide) (by decide) (by decide)⟩,
    zIk_fr h.2.1 hf ⟨s 12 (by decide) (by decide), s 22 (by decide) (by decide), s 7 (by decide) (by decide), s 8 (by decide) (by decide), s 9 (by decide) (by decide), s 1 (by decide) (by decide), s 11 (by decide) (by decide)⟩ ⟨a 1 (by decide) (by decide) (by decide) (by decide), a 5 (by decide) (by decide) (by decide) (by decide), a 13 (by decide) (by decide) (by decide) (by decide)⟩,
    zIt_fr h.2.2.1 hf ⟨s 13 (by decide) (by decide), s 23 (by decide) (by decide)⟩ ⟨a 6 (by decide) (by decide) (by decide) (by decide), a 14 (by decide) (by decide) (by decide) (by decide)⟩,
    zIh_fr h.2.2.2 hf (fun n q => by have := hS n q; omega) (fun n q => by have := hA n q; omega)⟩
theorem zgd_c {C : Nat} {law least draw : Int} {l : List Int} {p : Nat → Int} (h : zgd C law least draw l p) : zcol l := fun x hx => by
  have := h.2.2.2.1 x hx
  have := h.1.2.1
  omega
/-- what a pair of calls must come to -/
def zpq (σ1 : zM) (r1 : Option zV) : zM → Option zV → Prop := fun σ2 r2 => (∃ v : Int, r1 = some (vI v) ∧ r2 = some (vI v)) ∧ zInv σ2
