/-! places of rows and sheets; comparisons; what a call leaves as it was -/
def zpl : Nat → Nat := fun r => match r with | 0 => 3 | 1 => 8 | 2 => 23 | _ => 25
def zit : Nat → Nat := fun j => match j with | 0 => 15 | 1 => 17 | 2 => 19 | _ => 21
theorem zrw_c {r : Nat} (h : r < 4) : zcls (zrw r) = 0 := by
  match r, h with
  | 0, _ => rfl
  | 1, _ => rfl
  | 2, _ => rfl
  | 3, _ => rfl
theorem zrw_0 {r : Nat} (h : r < 4) : zcls (zrw r) = 0 ∧ zfv (zrw r) 0 = .inr (zpl r) := by
  match r, h with
  | 0, _ => exact ⟨rfl, rfl⟩
  | 1, _ => exact ⟨rfl, rfl⟩
  | 2, _ => exact ⟨rfl, rfl⟩
  | 3, _ => exact ⟨rfl, rfl⟩
theorem zrw_1 {r : Nat} (h : r < 4) : zcls (zrw r) = 0 ∧ zfv (zrw r) 1 = .inl r := by
  match r, h with
  | 0, _ => exact ⟨rfl, rfl⟩
  | 1, _ => exact ⟨rfl, rfl⟩
  | 2, _ => exact ⟨rfl, rfl⟩
  | 3, _ => exact ⟨rfl, rfl⟩
theorem zpl_a {r : Nat} (h : r < 4) : zcls (zpl r) = 20 ∧ zarr (zpl r) = (72, r) := by
  match r, h with
  | 0, _ => exact ⟨rfl, rfl⟩
  | 1, _ => exact ⟨rfl, rfl⟩
  | 2, _ => exact ⟨rfl, rfl⟩
  | 3, _ => exact ⟨rfl, rfl⟩
theorem zsh_c {s : Nat} (h : s < 4) : zcls (zshp s) = 2 := by
  match s, h with
  | 0, _ => rfl
  | 1, _ => rfl
  | 2, _ => rfl
  | 3, _ => rfl
theorem zsh_0 {s : Nat} (h : s < 4) : zcls (zshp s) = 2 ∧ zfv (zshp s) 0 = .inr (zit s) := by
  match s, h with
  | 0, _ => exact ⟨rfl, rfl⟩
  | 1, _ => exact ⟨rfl, rfl⟩
  | 2, _ => exact ⟨rfl, rfl⟩
  | 3, _ => exact ⟨rfl, rfl⟩
theorem zsh_1 {s : Nat} (h : s < 4) : zcls (zshp s) = 2 ∧ zfv (zshp s) 1 = .inl (14 + 2 * s) := by
  match s, h with
  | 0, _ => exact ⟨rfl, rfl⟩
  | 1, _ => exact ⟨rfl, rfl⟩
  | 2, _ => exact ⟨rfl, rfl⟩
  | 3, _ => exact ⟨rfl, rfl⟩
theorem zsh_2 {s : Nat} (h : s < 4) : zcls (zshp s) = 2 ∧ zfv (zshp s) 2 = .inl (15 + 2 * s) := by
  match s, h with
  | 0, _ => exact ⟨rfl, rfl⟩
  | 1, _ => exact ⟨rfl, rfl⟩
  | 2, _ => exact ⟨rfl, rfl⟩
  | 3, _ => exact ⟨rfl, rfl⟩
theorem zit_a {s : Nat} (h : s < 4) : zcls (zit s) = 20 ∧ zarr (zit s) = (48, 7 + s) := by
  match s, h with
  | 0, _ => exact ⟨rfl, rfl⟩
  | 1, _ => exact ⟨rfl, rfl⟩
  | 2, _ => exact ⟨rfl, rfl⟩
  | 3, _ => exact ⟨rfl, rfl⟩
theorem zrcv_o {mi p : Nat} {as : List zV} (hk : zkd mi = 0) (hc : zcls p = zown mi) : zrcv mi (vR p :: as) = true := by
  unfold zrcv
  rw [hk]
  show Nat.beq (zcls p) (zown mi) = true
  rw [hc, Nat.beq_refl]
theorem zcmp_lt {x y : Int} : zcmp x y < 0 ↔ x < y := by unfold zcmp; split <;> (try split) <;> omega
theorem zcmp_ge {x y : Int} : 0 ≤ zcmp x y ↔ y ≤ x := by unfold zcmp; split <;> (try split) <;> omega
theorem zcmp_gt {x y : Int} : 0 < zcmp x y ↔ y < x := by unfold zcmp; split <;> (try split) <;> omega
theorem zcmp_le {x y : Int} : zcmp x y ≤ 0 ↔ x ≤ y := by unfold zcmp; split <;> (try split) <;> omega
theorem zcmp_eq {x y : Int} : zcmp x y = 0 ↔ x = y := by unfold zcmp; split <;> (try split) <;> omega
theorem zcmp_ne {x y : Int} : ¬ zcmp x y = 0 ↔ ¬ x = y := not_congr zcmp_eq
theorem zS_1 (σ : zM) (n : Nat) (v : Int) : (zsetS σ n v).1 n = v := if_pos rfl
theorem zS_n {σ : zM} {n j : Nat} {v : Int} (h : j ≠ n) : (zsetS σ n v).1 j = σ.1 j := if_neg h
theorem zS_2 (σ : zM) (n : Nat) (v : Int) : (zsetS σ n v).2 = σ.2 := rfl
theorem zA_1 (σ : zM) (a : Nat) (f : Nat → Int) : (zsetA σ a f).1 = σ.1 := rfl
theorem zA_2 (σ : zM) (a : Nat) (f : Nat → Int) : (zsetA σ a f).2 a = f := if_pos rfl
theorem zA_n {σ : zM} {a b : Nat} {f : Nat → Int} (h : b ≠ a) : (zsetA σ a f).2 b = σ.2 b := if_neg h
theorem zup_1 (f : Nat → Int) (k : Nat) (v : Int) : zup f k v k = v := if_pos rfl
theorem zup_n {f : Nat → Int} {k j : Nat} {v : Int} (h : j ≠ k) : zup f k v j = f j := if_neg h
theorem zGret {d mi : Nat} {K : zM → Option zV → Prop} {sL : Nat} {xs : Nat → Int} {S : zS} (h : zG d mi K sL xs S) : zG d mi K sL xs S := h
