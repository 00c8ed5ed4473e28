/-! rules for walks of the small machine -/
abbrev zK (mi pc : Nat) (e : zE) : Prop := Nat.blt pc (zN mi) = true ∧ zcode mi pc = e
theorem zmk1 {L : List zV} {a : Nat} {x : Int} {f : zV → Prop} (hL : L[a]? = some (.inl x)) (h : f (.inl x)) : zld L 1 a f := by
  unfold zld; rw [hL]; exact h
theorem zmk2 {L : List zV} {a q : Nat} {f : zV → Prop} (hL : L[a]? = some (vR q)) (h : f (vR q)) : zld L 2 a f := by
  unfold zld; rw [hL]; exact h
theorem zmk2N {L : List zV} {a : Nat} {f : zV → Prop} (hL : L[a]? = some vN) (h : f vN) : zld L 2 a f := by
  unfold zld; rw [hL]; exact h
theorem zmk3 {L : List zV} {a : Nat} {x : Int} {f : zV → Prop} (hL : L[a]? = some (vL x)) (h : f (vL x)) : zld L 3 a f := by
  unfold zld; rw [hL]; exact h
section RU
variable {d mi pc nxt a b : Nat} {z : Int} {K : zM → Option zV → Prop} {sL : Nat} {xs : Nat → Int} {L L' st r : List zV} {σ : zM}
theorem rg {e : zE} (hk : zK mi pc e) (h : zEx (zC d) K sL xs (zG d mi K sL xs) e L st σ) : zG d mi K sL xs (pc, L, st, σ) := by
  refine zG_fold ?_
  unfold zStep
  rw [hk.1]
  show zEx (zC d) K sL xs (zG d mi K sL xs) (zcode mi pc) L st σ
  rw [hk.2]
  exact h
theorem r_const (hk : zK mi pc (0, nxt, a, b, z)) (h : zG d mi K sL xs (nxt, L, vI z :: st, σ)) : zG d mi K sL xs (pc, L, st, σ) := rg hk h
theorem r_iload {x : Int} (hk : zK mi pc (1, nxt, a, b, z)) (hL : L[a]? = some (.inl x)) (h : zG d mi K sL xs (nxt, L, .inl x :: st, σ)) : zG d mi K sL xs (pc, L, st, σ) :=
  rg hk (show zld L 1 a (fun v => zG d mi K sL xs (nxt, L, v :: st, σ)) from zmk1 hL h)
theorem r_aload {q : Nat} (hk : zK mi pc (2, nxt, a, b, z)) (hL : L[a]? = some (vR q)) (h : zG d mi K sL xs (nxt, L, vR q :: st, σ)) : zG d mi K sL xs (pc, L, st, σ) :=
  rg hk (show zld L 2 a (fun v => zG d mi K sL xs (nxt, L, v :: st, σ)) from zmk2 hL h)
theorem r_aloadN (hk : zK mi pc (2, nxt, a, b, z)) (hL : L[a]? = some vN) (h : zG d mi K sL xs (nxt, L, vN :: st, σ)) : zG d mi K sL xs (pc, L, st, σ) :=
  rg hk (show zld L 2 a (fun v => zG d mi K sL xs (nxt, L, v :: st, σ)) from zmk2N hL h)
theorem r_lload {x : Int} (hk : zK mi pc (3, nxt, a, b, z)) (hL : L[a]? = some (vL x)) (h : zG d mi K sL xs (nxt, L, vL x :: st, σ)) : zG d mi K sL xs (pc, L, st, σ) :=
  rg hk (show zld L 3 a (fun v => zG d mi K sL xs (nxt, L, v :: st, σ)) from zmk3 hL h)
theorem r_istore {x : Int} (hk : zK mi pc (4, nxt, a, b, z)) (hL : zst1 a (.inl x) L = L') (h : zG d mi K sL xs (nxt, L', r, σ)) : zG d mi K sL xs (pc, L, .inl x :: r, σ) := by
  subst hL; exact rg hk h
theorem r_astore {q : Nat} (hk : zK mi pc (5, nxt, a, b, z)) (hL : zst1 a (vR q) L = L') (h : zG d mi K sL xs (nxt, L', r, σ)) : zG d mi K sL xs (pc, L, vR q :: r, σ) := by
  subst hL; exact rg hk h
theorem r_astoreN (hk : zK mi pc (5, nxt, a, b, z)) (hL : zst1 a vN L = L') (h : zG d mi K sL xs (nxt, L', r, σ)) : zG d mi K sL xs (pc, L, vN :: r, σ) := by
  subst hL; exact rg hk h
theorem r_lstore {x : Int} (hk : zK mi pc (6, nxt, a, b, z)) (hL : zst2 a (vL x) L = L') (h : zG d mi K sL xs (nxt, L', r, σ)) : zG d mi K sL xs (pc, L, vL x :: r, σ) := by
  subst hL; exact rg hk h
theorem r_iinc {x v : Int} (hk : zK mi pc (7, nxt, a, b, z)) (hx : L[a]? = some (.inl x)) (hv : zbin 0 x z = v) (hL : zst1 a (.inl v) L = L') (h : zG d mi K sL xs (nxt, L', st, σ)) : zG d mi K sL xs (pc, L, st, σ) := by
  subst hv; subst hL
  exact rg hk (show zld L 1 a (fun v => (match v with | .inl x => zG d mi K sL xs (nxt, zst1 a (.inl (zbin 0 x z)) L, st, σ) | _ => False)) from zmk1 hx h)
theorem r_bin {x y v : Int} (hk : zK mi pc (8, nxt, a, b, z)) (hv : zbin a x y = v) (h : zG d mi K sL xs (nxt, L, vI v :: r, σ)) : zG d mi K sL xs (pc, L, .inl y :: .inl x :: r, σ) := by
  subst hv; exact rg hk h
theorem r_div {x y v : Int} (hk : zK mi pc (9, nxt, a, b, z)) (hy : ¬ y = 0) (hv : zdiv x y = v) (h : zG d mi K sL xs (nxt, L, vI v :: r, σ)) : zG d mi K sL xs (pc, L, .inl y :: .inl x :: r, σ) := by
  subst hv; exact rg hk ⟨hy, h⟩
theorem r_rem {x y v : Int} (hk : zK mi pc (10, nxt, a, b, z)) (hy : ¬ y = 0) (hv : zrem x y = v) (h : zG d mi K sL xs (nxt, L, vI v :: r, σ)) : zG d mi K sL xs (pc, L, .inl y :: .inl x :: r, σ) := by
  subst hv; exact rg hk ⟨hy, h⟩
theorem r_lbin {x y v : Int} (hk : zK mi pc (11, nxt, a, b, z)) (hv : zlbin a x y = v) (h : zG d mi K sL xs (nxt, L, vL v :: r, σ)) : zG d mi K sL xs (pc, L, vL y :: vL x :: r, σ) := by
  subst hv; exact rg hk h
theorem r_lsh {x y v : Int} (hk : zK mi pc (12, nxt, a, b, z)) (hv : zlsh a x y = v) (h : zG d mi K sL xs (nxt, L, vL v :: r, σ)) : zG d mi K sL xs (pc, L, .inl y :: vL x :: r, σ) := by
  subst hv; exact rg hk h
theorem r_cnv {v w : zV} (hk : zK mi pc (13, nxt, a, b, z)) (hw : zcnv a v = some w) (h : zG d mi K sL xs (nxt, L, w :: r, σ)) : zG d mi K sL xs (pc, L, v :: r, σ) :=
  rg hk (show (match zcnv a v with | some w => zG d mi K sL xs (nxt, L, w :: r, σ) | none => False) by rw [hw]; exact h)
theorem r_lcmp {x y v : Int} (hk : zK mi pc (14, nxt, a, b, z)) (hv : zcmp x y = v) (h : zG d mi K sL xs (nxt, L, vI v :: r, σ)) : zG d mi K sL xs (pc, L, vL y :: vL x :: r, σ) := by
  subst hv; exact rg hk h
theorem r_lconst (hk : zK mi pc (15, nxt, a, b, z)) (h : zG d mi K sL xs (nxt, L, vL z :: st, σ)) : zG d mi K sL xs (pc, L, st, σ) := rg hk h
theorem r_if_eq {x : Int} (hk : zK mi pc (16, nxt, 0, b, z)) (h1 : x = 0 → zG d mi K sL xs (b, L, r, σ)) (h2 : ¬ x = 0 → zG d mi K sL xs (nxt, L, r, σ)) : zG d mi K sL xs (pc, L, .inl x :: r, σ) := rg hk ⟨h1, h2⟩
theorem r_if_ne {x : Int} (hk : zK mi pc (16, nxt, 1, b, z)) (h1 : ¬ x = 0 → zG d mi K sL xs (b, L, r, σ)) (h2 : x = 0 → zG d mi K sL xs (nxt, L, r, σ)) : zG d mi K sL xs (pc, L, .inl x :: r, σ) := rg hk ⟨h1, fun q => h2 (Decidable.of_not_not q)⟩
theorem r_if_lt {x : Int} (hk : zK mi pc (16, nxt, 2, b, z)) (h1 : x < 0 → zG d mi K sL xs (b, L, r, σ)) (h2 : 0 ≤ x → zG d mi K sL xs (nxt, L, r, σ)) : zG d mi K sL xs (pc, L, .inl x :: r, σ) := rg hk ⟨h1, fun q => h2 (Int.not_lt.mp q)⟩
theorem r_if_ge {x : Int} (hk : zK mi pc (16, nxt, 3, b, z)) (h1 : 0 ≤ x → zG d mi K sL xs (b, L, r, σ)) (h2 : x < 0 → zG d mi K sL xs (nxt, L, r, σ)) : zG d mi K sL xs (pc, L, .inl x :: r, σ) := rg hk ⟨h1, fun q => h2 (Int.not_le.mp q)⟩
theorem r_if_gt {x : Int} (hk : zK mi pc (16, nxt, 4, b, z)) (h1 : 0 < x → zG d mi K sL xs (b, L, r, σ)) (h2 : x ≤ 0 → zG d mi K sL xs (nxt, L, r, σ)) : zG d mi K sL xs (pc, L, .inl x :: r, σ) := rg hk ⟨h1, fun q => h2 (Int.not_lt.mp q)⟩
theorem r_if_le {x : Int} (hk : zK mi pc (16, nxt, 5, b, z)) (h1 : x ≤ 0 → zG d mi K sL xs (b, L, r, σ)) (h2 : 0 < x → zG d mi K sL xs (nxt, L, r, σ)) : zG d mi K sL xs (pc, L, .inl x :: r, σ) := rg hk ⟨h1, fun q => h2 (Int.not_le.mp q)⟩
theorem r_ic_eq {x y : Int} (hk : zK mi pc (17, nxt, 0, b, z)) (h1 : x = y → zG d mi K sL xs (b, L, r, σ)) (h2 : ¬ x = y → zG d mi K sL xs (nxt, L, r, σ)) : zG d mi K sL xs (pc, L, .inl y :: .inl x :: r, σ) := rg hk ⟨h1, h2⟩
theorem r_ic_ne {x y : Int} (hk : zK mi pc (17, nxt, 1, b, z)) (h1 : ¬ x = y → zG d mi K sL xs (b, L, r, σ)) (h2 : x = y → zG d mi K sL xs (nxt, L, r, σ)) : zG d mi K sL xs (pc, L, .inl y :: .inl x :: r, σ) := rg hk ⟨h1, fun q => h2 (Decidable.of_not_not q)⟩
theorem r_ic_lt {x y : Int} (hk : zK mi pc (17, nxt, 2, b, z)) (h1 : x < y → zG d mi K sL xs (b, L, r, σ)) (h2 : y ≤ x → zG d mi K sL xs (nxt, L, r, σ)) : zG d mi K sL xs (pc, L, .inl y :: .inl x :: r, σ) := rg hk ⟨h1, fun q => h2 (Int.not_lt.mp q)⟩
theorem r_ic_ge {x y : Int} (hk : zK mi pc (17, nxt, 3, b, z)) (h1 : y ≤ x → zG d mi K sL xs (b, L, r, σ)) (h2 : x < y → zG d mi K sL xs (nxt, L, r, σ)) : zG d mi K sL xs (pc, L, .inl y :: .inl x :: r, σ) := rg hk ⟨h1, fun q => h2 (Int.not_le.mp q)⟩
theorem r_ic_gt {x y : Int} (hk : zK mi pc (17, nxt, 4, b, z)) (h1 : y < x → zG d mi K sL xs (b, L, r, σ)) (h2 : x ≤ y → zG d mi K sL xs (nxt, L, r, σ)) : zG d mi K sL xs (pc, L, .inl y :: .inl x :: r, σ) := rg hk ⟨h1, fun q => h2 (Int.not_lt.mp q)⟩
theorem r_ic_le {x y : Int} (hk : zK mi pc (17, nxt, 5, b, z)) (h1 : x ≤ y → zG d mi K sL xs (b, L, r, σ)) (h2 : y < x → zG d mi K sL xs (nxt, L, r, σ)) : zG d mi K sL xs (pc, L, .inl y :: .inl x :: r, σ) := rg hk ⟨h1, fun q => h2 (Int.not_le.mp q)⟩
theorem r_null {q : Nat} (hk : zK mi pc (18, nxt, 0, b, z)) (h : zG d mi K sL xs (nxt, L, r, σ)) : zG d mi K sL xs (pc, L, vR q :: r, σ) := rg hk h
theorem r_nullN (hk : zK mi pc (18, nxt, 0, b, z)) (h : zG d mi K sL xs (b, L, r, σ)) : zG d mi K sL xs (pc, L, vN :: r, σ) := rg hk h
theorem r_nonnull {q : Nat} (hk : zK mi pc (18, nxt, 1, b, z)) (h : zG d mi K sL xs (b, L, r, σ)) : zG d mi K sL xs (pc, L, vR q :: r, σ) := rg hk h
theorem r_nonnullN (hk : zK mi pc (18, nxt, 1, b, z)) (h : zG d mi K sL xs (nxt, L, r, σ)) : zG d mi K sL xs (pc, L, vN :: r, σ) := rg hk h
theorem r_goto (hk : zK mi pc (19, nxt, a, b, z)) (h : zG d mi K sL xs (b, L, st, σ)) : zG d mi K sL xs (pc, L, st, σ) := rg hk h
theorem r_getS {p n : Nat} {v : Int} (hk : zK mi pc (20, nxt, a, b, z)) (hp : zcls p = a ∧ zfv p b = .inl n) (hv : σ.1 n = v) (h : zG d mi K sL xs (nxt, L, vI v :: r, σ)) : zG d mi K sL xs (pc, L, vR p :: r, σ) := by
  subst hv
  refine rg hk (show (match Nat.beq (zcls p) a, zfv p b with | true, .inl n => zG d mi K sL xs (nxt, L, vI (σ.1 n) :: r, σ) | true, .inr q => zG d mi K sL xs (nxt, L, vR q :: r, σ) | _, _ => False) from ?_)
  rw [hp.1, hp.2, Nat.beq_refl]; exact h
theorem r_getR {p q : Nat} (hk : zK mi pc (20, nxt, a, b, z)) (hp : zcls p = a ∧ zfv p b = .inr q) (h : zG d mi K sL xs (nxt, L, vR q :: r, σ)) : zG d mi K sL xs (pc, L, vR p :: r, σ) := by
  refine rg hk (show (match Nat.beq (zcls p) a, zfv p b with | true, .inl n => zG d mi K sL xs (nxt, L, vI (σ.1 n) :: r, σ) | true, .inr q => zG d mi K sL xs (nxt, L, vR q :: r, σ) | _, _ => False) from ?_)
  rw [hp.1, hp.2, Nat.beq_refl]; exact h
theorem r_putS {p n : Nat} {x : Int} (hk : zK mi pc (21, nxt, a, b, z)) (hp : zcls p = a ∧ zfv p b = .inl n) (h : zG d mi K sL xs (nxt, L, r, zsetS σ n x)) : zG d mi K sL xs (pc, L, .inl x :: vR p :: r, σ) := by
  refine rg hk (show (match Nat.beq (zcls p) a, zfv p b with | true, .inl n => zG d mi K sL xs (nxt, L, r, zsetS σ n x) | _, _ => False) from ?_)
  rw [hp.1, hp.2, Nat.beq_refl]; exact h
theorem r_putZ {p n : Nat} {x : Int} (hk : zK mi pc (22, nxt, a, b, z)) (hp : zcls p = a ∧ zfv p b = .inl n) (hx : x = 0 ∨ x = 1) (h : zG d mi K sL xs (nxt, L, r, zsetS σ n x)) : zG d mi K sL xs (pc, L, .inl x :: vR p :: r, σ) := by
  refine rg hk (show (match Nat.beq (zcls p) a, zfv p b with | true, .inl n => (x = 0 ∨ x = 1) ∧ zG d mi K sL xs (nxt, L, r, zsetS σ n x) | _, _ => False) from ?_)
  rw [hp.1, hp.2, Nat.beq_refl]; exact ⟨hx, h⟩
theorem r_iald {p n g : Nat} {i v : Int} (hk : zK mi pc (23, nxt, a, b, z)) (hp : zcls p = 20 ∧ zarr p = (n, g)) (hi : 0 ≤ i ∧ i < n) (hv : σ.2 g i.toNat = v) (h : zG d mi K sL xs (nxt, L, vI v :: r, σ)) : zG d mi K sL xs (pc, L, .inl i :: vR p :: r, σ) := by
  subst hv
  refine rg hk (show (match Nat.beq (zcls p) 20, zarr p with | true, (n, g) => (0 ≤ i ∧ i < n) ∧ zG d mi K sL xs (nxt, L, vI (σ.2 g i.toNat) :: r, σ) | _, _ => False) from ?_)
  rw [hp.1, hp.2]; exact ⟨hi, h⟩
theorem r_iast {p n g : Nat} {i x : Int} (hk : zK mi pc (24, nxt, a, b, z)) (hp : zcls p = 20 ∧ zarr p = (n, g)) (hi : 0 ≤ i ∧ i < n) (h : zG d mi K sL xs (nxt, L, r, zsetA σ g (zup (σ.2 g) i.toNat x))) : zG d mi K sL xs (pc, L, .inl x :: .inl i :: vR p :: r, σ) := by
  refine rg hk (show (match Nat.beq (zcls p) 20, zarr p with | true, (n, g) => (0 ≤ i ∧ i < n) ∧ zG d mi K sL xs (nxt, L, r, zsetA σ g (zup (σ.2 g) i.toNat x)) | _, _ => False) from ?_)
  rw [hp.1, hp.2]; exact ⟨hi, h⟩
theorem r_bald {p n g : Nat} {i v : Int} (hk : zK mi pc (25, nxt, a, b, z)) (hp : zcls p = 21 ∧ zarr p = (n, g)) (hi : 0 ≤ i ∧ i < n) (hv : σ.2 g i.toNat = v) (h : zG d mi K sL xs (nxt, L, vI v :: r, σ)) : zG d mi K sL xs (pc, L, .inl i :: vR p :: r, σ) := by
  subst hv
  refine rg hk (show (match Nat.beq (zcls p) 21, zarr p with | true, (n, g) => (0 ≤ i ∧ i < n) ∧ zG d mi K sL xs (nxt, L, vI (σ.2 g i.toNat) :: r, σ) | _, _ => False) from ?_)
  rw [hp.1, hp.2]; exact ⟨hi, h⟩
theorem r_bast {p n g : Nat} {i x v : Int} (hk : zK mi pc (26, nxt, a, b, z)) (hp : zcls p = 21 ∧ zarr p = (n, g)) (hi : 0 ≤ i ∧ i < n) (hv : zbin 3 x 1 = v) (h : zG d mi K sL xs (nxt, L, r, zsetA σ g (zup (σ.2 g) i.toNat v))) : zG d mi K sL xs (pc, L, .inl x :: .inl i :: vR p :: r, σ) := by
  subst hv
  refine rg hk (show (match Nat.beq (zcls p) 21, zarr p with | true, (n, g) => (0 ≤ i ∧ i < n) ∧ zG d mi K sL xs (nxt, L, r, zsetA σ g (zup (σ.2 g) i.toNat (zbin 3 x 1))) | _, _ => False) from ?_)
  rw [hp.1, hp.2]; exact ⟨hi, h⟩
theorem r_alen {p n g : Nat} (hk : zK mi pc (27, nxt, a, b, z)) (hp : zcls p = 20 ∧ zarr p = (n, g)) (h : zG d mi K sL xs (nxt, L, vI (n : Int) :: r, σ)) : zG d mi K sL xs (pc, L, vR p :: r, σ) := by
  refine rg hk (show (match zcls p with | 20 => zG d mi K sL xs (nxt, L, vI (zarr p).1 :: r, σ) | 22 => zG d mi K sL xs (nxt, L, vI 4 :: r, σ) | 23 => zG d mi K sL xs (nxt, L, vI 4 :: r, σ) | _ => False) from ?_)
  rw [hp.1, hp.2]; exact h
theorem r_alen4 (p : Nat) (hk : zK mi pc (27, nxt, a, b, z)) (hp : zcls p = 22 ∨ zcls p = 23) (h : zG d mi K sL xs (nxt, L, vI 4 :: r, σ)) : zG d mi K sL xs (pc, L, vR p :: r, σ) := by
  refine rg hk (show (match zcls p with | 20 => zG d mi K sL xs (nxt, L, vI (zarr p).1 :: r, σ) | 22 => zG d mi K sL xs (nxt, L, vI 4 :: r, σ) | 23 => zG d mi K sL xs (nxt, L, vI 4 :: r, σ) | _ => False) from ?_)
  rcases hp with hp | hp <;> rw [hp] <;> exact h
theorem r_call {as : List zV} (hk : zK mi pc (28, nxt, a, b, z)) (hp : zpop b [] st = some (as, r)) (hv : zrcv a as = true) (hs : Nat.ble (zcsum r) 8 = true) (h : zC d a as σ (fun σ' v => zG d mi K sL xs (nxt, L, v.toList ++ r, σ'))) : zG d mi K sL xs (pc, L, st, σ) := by
  refine rg hk (show (match zpop b [] st with
        | some (as, r) => (match zrcv a as, Nat.ble (zcsum r) 8 with | true, true => zC d a as σ fun σ' v => zG d mi K sL xs (nxt, L, v.toList ++ r, σ') | _, _ => False)
        | none => False) from ?_)
  rw [hp]
  show (match zrcv a as, Nat.ble (zcsum r) 8 with | true, true => zC d a as σ fun σ' v => zG d mi K sL xs (nxt, L, v.toList ++ r, σ') | _, _ => False)
  rw [hv, hs]
  exact h
theorem r_acopy {p q np gp nq gq : Nat} {n dp sp : Int} (hk : zK mi pc (29, nxt, a, b, z)) (hp : zcls p = 20 ∧ zarr p = (np, gp)) (hq : zcls q = 20 ∧ zarr q = (nq, gq)) (h1 : 0 ≤ sp ∧ 0 ≤ dp ∧ 0 ≤ n) (h2 : sp + n ≤ nq ∧ dp + n ≤ np) (h : zG d mi K sL xs (nxt, L, [], zsetA σ gp (zcpy (σ.2 gq) (σ.2 gp) sp.toNat dp.toNat n.toNat))) : zG d mi K sL xs (pc, L, [.inl n, .inl dp, vR p, .inl sp, vR q], σ) := by
  refine rg hk (show (match Nat.beq (zcls p) 20, Nat.beq (zcls q) 20 with
          | true, true => ((0 ≤ sp ∧ 0 ≤ dp ∧ 0 ≤ n) ∧ sp + n ≤ (zarr q).1 ∧ dp + n ≤ (zarr p).1) ∧ zG d mi K sL xs (nxt, L, [], zsetA σ (zarr p).2 (zcpy (σ.2 (zarr q).2) (σ.2 (zarr p).2) sp.toNat dp.toNat n.toNat))
          | _, _ => False) from ?_)
  rw [hp.1, hq.1, hp.2, hq.2]; exact ⟨⟨h1, h2⟩, h⟩
theorem r_dup {q : Nat} (hk : zK mi pc (30, nxt, a, b, z)) (h : zG d mi K sL xs (nxt, L, vR q :: vR q :: r, σ)) : zG d mi K sL xs (pc, L, vR q :: r, σ) := rg hk h
theorem r_dup2 {q : Nat} {i : Int} (hk : zK mi pc (31, nxt, a, b, z)) (h : zG d mi K sL xs (nxt, L, .inl i :: vR q :: .inl i :: vR q :: r, σ)) : zG d mi K sL xs (pc, L, .inl i :: vR q :: r, σ) := rg hk h
theorem r_pop {x : Int} (hk : zK mi pc (32, nxt, a, b, z)) (h : zG d mi K sL xs (nxt, L, r, σ)) : zG d mi K sL xs (pc, L, .inl x :: r, σ) := rg hk h
theorem r_anull (hk : zK mi pc (33, nxt, a, b, z)) (h : zG d mi K sL xs (nxt, L, vN :: st, σ)) : zG d mi K sL xs (pc, L, st, σ) := rg hk h
theorem r_iret {x : Int} (hk : zK mi pc (34, nxt, a, b, z)) (h : K σ (some (vI x))) : zG d mi K sL xs (pc, L, [.inl x], σ) := rg hk h
theorem r_zret {x : Int} (hk : zK mi pc (35, nxt, a, b, z)) (hx : x = 0 ∨ x = 1) (h : K σ (some (vI x))) : zG d mi K sL xs (pc, L, [.inl x], σ) := rg hk ⟨hx, h⟩
theorem r_bret {x : Int} (hk : zK mi pc (36, nxt, a, b, z)) (hx : x = 0) (h : K σ (some (vI x))) : zG d mi K sL xs (pc, L, [.inl x], σ) := rg hk ⟨hx, h⟩
theorem r_vret (hk : zK mi pc (37, nxt, a, b, z)) (h : K σ none) : zG d mi K sL xs (pc, L, [], σ) := rg hk h
theorem r_str (hk : zK mi pc (38, nxt, a, b, z)) (h : zG d mi K sL xs (nxt, L, vR 41 :: st, σ)) : zG d mi K sL xs (pc, L, st, σ) := rg hk h
theorem r_lret {x : Int} (hk : zK mi pc (39, nxt, a, b, z)) (h : K σ (some (vL x))) : zG d mi K sL xs (pc, L, [vL x], σ) := rg hk h
theorem r_aret {q : Nat} (hk : zK mi pc (40, nxt, a, b, z)) (h : K σ (some (vR q))) : zG d mi K sL xs (pc, L, [vR q], σ) := rg hk h
theorem r_aretN (hk : zK mi pc (40, nxt, a, b, z)) (h : K σ (some vN)) : zG d mi K sL xs (pc, L, [vN], σ) := rg hk h
theorem r_sbyte {i v : Int} (hk : zK mi pc (41, nxt, a, b, z)) (hi : 0 ≤ i ∧ i < 4) (hv : zbyt i.toNat = v) (h : zG d mi K sL xs (nxt, L, vI v :: r, σ)) : zG d mi K sL xs (pc, L, .inl i :: vR 42 :: r, σ) := by
  subst hv; exact rg hk (show (0 ≤ i ∧ i < 4) ∧ _ from ⟨hi, h⟩)
theorem r_switch {x : Int} {t : Nat} (hk : zK mi pc (42, nxt, a, b, z)) (ht : zswt x = t) (h : zG d mi K sL xs (t, L, r, σ)) : zG d mi K sL xs (pc, L, .inl x :: r, σ) := by
  subst ht; exact rg hk h
theorem r_sval (hk : zK mi pc (43, nxt, 9, b, z)) (h : zG d mi K sL xs (nxt, L, vR 42 :: r, σ)) : zG d mi K sL xs (pc, L, vR 41 :: r, σ) := rg hk h
theorem r_scod (hk : zK mi pc (43, nxt, 15, b, z)) (h : zG d mi K sL xs (nxt, L, vI 0 :: r, σ)) : zG d mi K sL xs (pc, L, vR 41 :: r, σ) := rg hk h
theorem r_scr {i : Int} (hk : zK mi pc (44, nxt, a, b, z)) (hi : 0 ≤ i ∧ i < sL) (h : zG d mi K sL xs (nxt, L, vI (xs i.toNat) :: r, σ)) : zG d mi K sL xs (pc, L, .inl i :: vR 43 :: r, σ) := rg hk (show (0 ≤ i ∧ i < sL) ∧ _ from ⟨hi, h⟩)
theorem r_page {i : Int} (hk : zK mi pc (45, nxt, a, b, z)) (hi : 0 ≤ i ∧ i < 4) (h : zG d mi K sL xs (nxt, L, vR (zshp i.toNat) :: r, σ)) : zG d mi K sL xs (pc, L, .inl i :: vR 13 :: r, σ) := rg hk (show (0 ≤ i ∧ i < 4) ∧ _ from ⟨hi, h⟩)
theorem r_cs (hk : zK mi pc (46, nxt, a, b, z)) (h : zG d mi K sL xs (nxt, L, vI 1 :: st, σ)) : zG d mi K sL xs (pc, L, st, σ) := rg hk h
theorem r_slen (hk : zK mi pc (47, nxt, a, b, z)) (h : zG d mi K sL xs (nxt, L, vI sL :: r, σ)) : zG d mi K sL xs (pc, L, vR 43 :: r, σ) := rg hk h
theorem r_max {x y v : Int} (hk : zK mi pc (48, nxt, a, b, z)) (hs : Nat.ble (zcsum r) 20 = true) (hv : (if x < y then y else x) = v) (h : zG d mi K sL xs (nxt, L, vI v :: r, σ)) : zG d mi K sL xs (pc, L, .inl y :: .inl x :: r, σ) := by
  subst hv
  refine rg hk (show (match Nat.ble (zcsum r) 20 with | true => zG d mi K sL xs (nxt, L, vI (if x < y then y else x) :: r, σ) | false => False) from ?_)
  rw [hs]; exact h
theorem r_min {x y v : Int} (hk : zK mi pc (49, nxt, a, b, z)) (hs : Nat.ble (zcsum r) 20 = true) (hv : (if y < x then y else x) = v) (h : zG d mi K sL xs (nxt, L, vI v :: r, σ)) : zG d mi K sL xs (pc, L, .inl y :: .inl x :: r, σ) := by
  subst hv
  refine rg hk (show (match Nat.ble (zcsum r) 20 with | true => zG d mi K sL xs (nxt, L, vI (if y < x then y else x) :: r, σ) | false => False) from ?_)
  rw [hs]; exact h
theorem r_cut (k : Nat) (hL : zcut k L = L') (h : zG d mi K sL xs (pc, L', st, σ)) : zG d mi K sL xs (pc, L, st, σ) := zG_cut k (by show zG d mi K sL xs (pc, zcut k L, st, σ); rw [hL]; exact h)
theorem r_at {τ : zM} (e : σ = τ) (h : zG d mi K sL xs (pc, L, st, τ)) : zG d mi K sL xs (pc, L, st, σ) := e ▸ h
end RU
/-! numbers -/
theorem zb_add {x y : Int} (h : zi32 (x + y)) : zbin 0 x y = x + y := by
  show (Int32.ofInt x + Int32.ofInt y).toInt = _
  rw [← Int32.ofInt_add, zto32 h]
theorem zb_sub {x y : Int} (h : zi32 (x - y)) : zbin 1 x y = x - y := by
  show (Int32.ofInt x - Int32.ofInt y).toInt = _
  rw [← Int32.ofInt_sub, zto32 h]
theorem zb_mul {x y : Int} (h : zi32 (x * y)) : zbin 2 x y = x * y := by
  show (Int32.ofInt x * Int32.ofInt y).toInt = _
  rw [← Int32.ofInt_mul, zto32 h]
theorem zl_add {x y : Int} (h : zi64 (x + y)) : zlbin 0 x y = x + y := by
  show (Int64.ofInt x + Int64.ofInt y).toInt = _
  rw [← Int64.ofInt_add, zto64 h]
theorem zl_mul {x y : Int} (h : zi64 (x * y)) : zlbin 1 x y = x * y := by
  show (Int64.ofInt x * Int64.ofInt y).toInt = _
  rw [← Int64.ofInt_mul, zto64 h]
theorem zd_div {x y : Int} (hx : 0 ≤ x) (hx2 : zi32 x) (hy : 0 < y) (hy2 : zi32 y) : zdiv x y = x / y := by
  show (Int32.ofInt x / Int32.ofInt y).toInt = _
  rw [Int32.toInt_div_of_ne_left, zto32 hx2, zto32 hy2, Int.tdiv_eq_ediv_of_nonneg hx]
  intro q
  have := congrArg Int32.toInt q
  rw [zto32 hx2] at this
  rw [this] at hx
  exact absurd hx (by decide)
theorem zd_rem {x y : Int} (hx : 0 ≤ x) (hx2 : zi32 x) (hy : 0 < y) (hy2 : zi32 y) : zrem x y = x % y := by
  show (Int32.ofInt x - Int32.ofInt x / Int32.ofInt y * Int32.ofInt y).toInt = _
  have e : Int32.ofInt x / Int32.ofInt y = Int32.ofInt (x / y) := by
    rw [← Int32.toInt_inj]
    have h1 := zd_div hx hx2 hy hy2
    unfold zdiv at h1
    have h2 : x / y ≤ x := Int.ediv_le_self _ hx
    have h3 : 0 ≤ x / y := Int.ediv_nonneg hx (Int.le_of_lt hy)
    rw [h1, zto32 ⟨by omega, by have := hx2.2; omega⟩]
  have h5 : 0 ≤ x % y := Int.emod_nonneg _ (by omega)
  have h6 : x % y < y := Int.emod_lt_of_pos _ hy
  rw [e, ← Int32.ofInt_mul, ← Int32.ofInt_sub, show x - x / y * y = x % y by rw [Int.emod_def, Int.mul_comm y], zto32 ⟨by omega, by have := hy2.2; omega⟩]
