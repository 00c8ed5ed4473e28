/-! the small machine: values, memory, one step, a run, a call; ints are Int (the number), references are places -/
abbrev zV : Type := Int ⊕ Int ⊕ Nat ⊕ Bool
abbrev vI (x : Int) : zV := .inl x
abbrev vL (x : Int) : zV := .inr (.inl x)
abbrev vR (k : Nat) : zV := .inr (.inr (.inl k))
abbrev vN : zV := .inr (.inr (.inr true))
abbrev vU : zV := .inr (.inr (.inr false))
abbrev zM : Type := (Nat → Int) × (Nat → Nat → Int)
abbrev zS : Type := Nat × List zV × List zV × zM
def zup (f : Nat → Int) (k : Nat) (v : Int) : Nat → Int := fun j => if j = k then v else f j
def zsetS (σ : zM) (n : Nat) (v : Int) : zM := (zup σ.1 n v, σ.2)
def zupA (g : Nat → Nat → Int) (a : Nat) (f : Nat → Int) : Nat → Nat → Int := fun b => if b = a then f else g b
def zsetA (σ : zM) (a : Nat) (f : Nat → Int) : zM := (σ.1, zupA σ.2 a f)
def zcpy (f g : Nat → Int) (sp dp n : Nat) : Nat → Int := fun k => if dp ≤ k ∧ k < dp + n then f (sp + (k - dp)) else g k
/-- the class of a place: 0..6 ours, 7 the text, 20 ints, 21 booleans, 22 references, 23 the text's bytes, 24 the script -/
def zcls : Nat → Nat := fun k => match k with
  | 0 => 5 | 1 => 3 | 2 => 0 | 3 => 20 | 4 => 1 | 5 => 20 | 6 => 3 | 7 => 0 | 8 => 20 | 9 => 1 | 10 => 20
  | 11 => 4 | 12 => 20 | 13 => 22 | 14 => 2 | 15 => 20 | 16 => 2 | 17 => 20 | 18 => 2 | 19 => 20 | 20 => 2 | 21 => 20
  | 22 => 0 | 23 => 20 | 24 => 0 | 25 => 20 | 26 => 20
  | 27 => 6 | 28 => 20 | 29 => 20 | 30 => 20 | 31 => 20 | 32 => 20 | 33 => 20 | 34 => 20 | 35 => 20 | 36 => 20 | 37 => 20 | 38 => 21 | 39 => 21 | 40 => 21
  | 41 => 7 | 42 => 23 | 43 => 24 | _ => 99
/-- an array's length and its number in the memory -/
def zarr : Nat → Nat × Nat := fun k => match k with
  | 3 => (72, 0) | 8 => (72, 1) | 23 => (72, 2) | 25 => (72, 3) | 5 => (4, 4) | 10 => (4, 5) | 12 => (100, 6)
  | 15 => (48, 7) | 17 => (48, 8) | 19 => (48, 9) | 21 => (48, 10) | 26 => (4, 11)
  | 28 => (57, 12) | 29 => (57, 13) | 30 => (100, 14) | 31 => (4, 15) | 32 => (4, 16) | 33 => (192, 17) | 34 => (80, 18) | 35 => (4, 19) | 36 => (24, 20) | 37 => (8, 21) | 38 => (9, 22) | 39 => (9, 23) | 40 => (9, 24)
  | _ => (0, 99)
/-- the sheets' places -/
def zshp : Nat → Nat := fun j => match j with | 0 => 14 | 1 => 16 | 2 => 18 | _ => 20
/-- a field of an object: a scalar of the memory, or a reference that never changes -/
def zfv (p k : Nat) : Nat ⊕ Nat := match p, k with
  | 0, 0 => .inr 1 | 0, 1 => .inr 6 | 0, 2 => .inl 12 | 0, 3 => .inr 11 | 0, 4 => .inr 13 | 0, 5 => .inr 22 | 0, 6 => .inr 24 | 0, 7 => .inr 26
  | 1, 0 => .inr 2 | 1, 1 => .inr 4 | 1, 2 => .inl 10
  | 2, 0 => .inr 3 | 2, 1 => .inl 0
  | 4, 0 => .inl 4 | 4, 1 => .inl 5 | 4, 2 => .inl 6 | 4, 3 => .inr 5
  | 6, 0 => .inr 7 | 6, 1 => .inr 9 | 6, 2 => .inl 11
  | 7, 0 => .inr 8 | 7, 1 => .inl 1
  | 9, 0 => .inl 7 | 9, 1 => .inl 8 | 9, 2 => .inl 9 | 9, 3 => .inr 10
  | 11, 0 => .inr 12 | 11, 1 => .inl 13
  | 14, 0 => .inr 15 | 14, 1 => .inl 14 | 14, 2 => .inl 15
  | 16, 0 => .inr 17 | 16, 1 => .inl 16 | 16, 2 => .inl 17
  | 18, 0 => .inr 19 | 18, 1 => .inl 18 | 18, 2 => .inl 19
  | 20, 0 => .inr 21 | 20, 1 => .inl 20 | 20, 2 => .inl 21
  | 22, 0 => .inr 23 | 22, 1 => .inl 2
  | 24, 0 => .inr 25 | 24, 1 => .inl 3
  | 27, 0 => .inr 28 | 27, 1 => .inr 29 | 27, 2 => .inl 22 | 27, 3 => .inr 30 | 27, 4 => .inl 23 | 27, 5 => .inr 31 | 27, 6 => .inr 32 | 27, 7 => .inr 33 | 27, 8 => .inr 34 | 27, 9 => .inr 35 | 27, 10 => .inr 36 | 27, 11 => .inr 37 | 27, 12 => .inr 38 | 27, 13 => .inr 39 | 27, 14 => .inr 40
  | _, _ => .inl 99
/-- 32-bit and 64-bit arithmetic on numbers -/
def zbin (b : Nat) (x y : Int) : Int := match b with
  | 0 => (Int32.ofInt x + Int32.ofInt y).toInt
  | 1 => (Int32.ofInt x - Int32.ofInt y).toInt
  | 2 => (Int32.ofInt x * Int32.ofInt y).toInt
  | 3 => (Int32.ofInt x &&& Int32.ofInt y).toInt
  | 4 => (Int32.ofInt x ||| Int32.ofInt y).toInt
  | 5 => (Int32.ofInt x <<< (Int32.ofInt y &&& 31)).toInt
  | 6 => (Int32.ofInt x >>> (Int32.ofInt y &&& 31)).toInt
  | _ => ((Int32.ofInt x).toUInt32 >>> ((Int32.ofInt y).toUInt32 &&& Int32.toUInt32 31)).toInt32.toInt
def zdiv (x y : Int) : Int := (Int32.ofInt x / Int32.ofInt y).toInt
def zrem (x y : Int) : Int := (Int32.ofInt x - Int32.ofInt x / Int32.ofInt y * Int32.ofInt y).toInt
def zlbin (b : Nat) (x y : Int) : Int := match b with
  | 0 => (Int64.ofInt x + Int64.ofInt y).toInt
  | 1 => (Int64.ofInt x * Int64.ofInt y).toInt
  | 2 => (Int64.ofInt x &&& Int64.ofInt y).toInt
  | _ => (Int64.ofInt x ||| Int64.ofInt y).toInt
def zlsh (b : Nat) (x y : Int) : Int := match b with
  | 0 => (Int64.ofInt x <<< ((Int32.ofInt y).toInt64 &&& 63)).toInt
  | _ => (Int64.ofInt x >>> ((Int32.ofInt y).toInt64 &&& 63)).toInt
def zcnv (b : Nat) (v : zV) : Option zV := match b, v with
  | 0, .inl x => some (vL x)
  | 1, .inr (.inl x) => some (vI (Int64.ofInt x).toInt32.toInt)
  | 2, .inl x => some (vI (Int32.ofInt x).toInt8.toInt32.toInt)
  | 3, .inl x => some (vI (Int32.ofInt x).toInt16.toInt32.toInt)
  | 4, .inl x => some (vI ((Int32.ofInt x).toUInt32 % 65536).toInt32.toInt)
  | _, _ => none
def zcmp (x y : Int) : Int := if x < y then -1 else if x = y then 0 else 1
def zcond (c : Nat) (x y : Int) : Prop := match c with
  | 0 => x = y | 1 => ¬ x = y | 2 => x < y | 3 => y ≤ x | 4 => y < x | _ => x ≤ y
def zbyt : Nat → Int := fun j => match j with | 0 => 114 | 1 => 119 | 2 => 98 | _ => 103
def zswt (x : Int) : Nat := if 0 ≤ x ∧ x ≤ 33 then zswl.getD x.toNat 0 else zswd
/-- stores into the locals: a long takes two places -/
def zunl : List zV → List zV := fun L => match L with | [] => [] | v :: l => (match v with | .inr (.inl _) => vU | w => w) :: l
def zst1 : Nat → zV → List zV → List zV
  | _, _, [] => []
  | 0, v, _ :: l => v :: l
  | 1, v, [a] => zunl [a]
  | 1, v, a :: _ :: l => (match a with | .inr (.inl _) => vU | w => w) :: v :: l
  | n + 2, v, a :: l => a :: zst1 (n + 1) v l
def zst2 (i : Nat) (v : zV) (L : List zV) : List zV := zst1 i v ((zst1 (i + 1) vU L))
def zlay : List zV → List zV
  | [] => []
  | .inr (.inl x) :: l => vL x :: vU :: zlay l
  | v :: l => v :: zlay l
def zpad (n : Nat) (L : List zV) : List zV := L ++ List.replicate (n - L.length) vU
def zcut (k : Nat) (L : List zV) : List zV := L.take k ++ List.replicate (L.length - k) vU
def zpop : Nat → List zV → List zV → Option (List zV × List zV)
  | 0, acc, st => some (acc, st)
  | n + 1, acc, v :: st => zpop n (v :: acc) st
  | _ + 1, _, [] => none
def zcsum : List zV → Nat
  | [] => 0
  | .inr (.inl _) :: l => 2 + zcsum l
  | _ :: l => 1 + zcsum l
def zrcv (mi : Nat) (as : List zV) : Bool := match zkd mi, as with
  | 1, _ => true
  | _, .inr (.inr (.inl p)) :: _ => Nat.beq (zcls p) (zown mi)
  | _, _ => false
section ZX
variable (Call : Nat → List zV → zM → (zM → Option zV → Prop) → Prop) (K : zM → Option zV → Prop) (sL : Nat) (xs : Nat → Int) (X : zS → Prop)
def zld (L : List zV) (t i : Nat) (f : zV → Prop) : Prop := match L[i]? with
  | some v => (match t, v with | 1, .inl x => f (.inl x) | 2, .inr (.inr (.inl k)) => f (.inr (.inr (.inl k))) | 2, .inr (.inr (.inr true)) => f vN | 3, .inr (.inl x) => f (.inr (.inl x)) | _, _ => False)
  | none => False
def zEx (e : zE) (L st : List zV) (σ : zM) : Prop := match e with
  | (op, nxt, a, b, z) => match op with
    | 0 => X (nxt, L, vI z :: st, σ)
    | 1 => zld L 1 a fun v => X (nxt, L, v :: st, σ)
    | 2 => zld L 2 a fun v => X (nxt, L, v :: st, σ)
    | 3 => zld L 3 a fun v => X (nxt, L, v :: st, σ)
    | 4 => (match st with | .inl x :: r => X (nxt, zst1 a (.inl x) L, r, σ) | _ => False)
    | 5 => (match st with | .inr (.inr (.inl k)) :: r => X (nxt, zst1 a (.inr (.inr (.inl k))) L, r, σ) | .inr (.inr (.inr true)) :: r => X (nxt, zst1 a vN L, r, σ) | _ => False)
    | 6 => (match st with | .inr (.inl x) :: r => X (nxt, zst2 a (.inr (.inl x)) L, r, σ) | _ => False)
    | 7 => zld L 1 a fun v => (match v with | .inl x => X (nxt, zst1 a (.inl (zbin 0 x z)) L, st, σ) | _ => False)
    | 8 => (match st with | .inl y :: .inl x :: r => X (nxt, L, vI (zbin a x y) :: r, σ) | _ => False)
    | 9 => (match st with | .inl y :: .inl x :: r => (¬ y = 0) ∧ X (nxt, L, vI (zdiv x y) :: r, σ) | _ => False)
    | 10 => (match st with | .inl y :: .inl x :: r => (¬ y = 0) ∧ X (nxt, L, vI (zrem x y) :: r, σ) | _ => False)
    | 11 => (match st with | .inr (.inl y) :: .inr (.inl x) :: r => X (nxt, L, vL (zlbin a x y) :: r, σ) | _ => False)
    | 12 => (match st with | .inl y :: .inr (.inl x) :: r => X (nxt, L, vL (zlsh a x y) :: r, σ) | _ => False)
    | 13 => (match st with | v :: r => (match zcnv a v with | some w => X (nxt, L, w :: r, σ) | none => False) | _ => False)
    | 14 => (match st with | .inr (.inl y) :: .inr (.inl x) :: r => X (nxt, L, vI (zcmp x y) :: r, σ) | _ => False)
    | 15 => X (nxt, L, vL z :: st, σ)
    | 16 => (match st with | .inl x :: r => (zcond a x 0 → X (b, L, r, σ)) ∧ (¬ zcond a x 0 → X (nxt, L, r, σ)) | _ => False)
    | 17 => (match st with | .inl y :: .inl x :: r => (zcond a x y → X (b, L, r, σ)) ∧ (¬ zcond a x y → X (nxt, L, r, σ)) | _ => False)
    | 18 => (match a, st with | 0, .inr (.inr (.inl _)) :: r => X (nxt, L, r, σ) | 0, .inr (.inr (.inr true)) :: r => X (b, L, r, σ) | 1, .inr (.inr (.inl _)) :: r => X (b, L, r, σ) | 1, .inr (.inr (.inr true)) :: r => X (nxt, L, r, σ) | _, _ => False)
    | 19 => X (b, L, st, σ)
    | 20 => (match st with | .inr (.inr (.inl p)) :: r => (match Nat.beq (zcls p) a, zfv p b with | true, .inl n => X (nxt, L, vI (σ.1 n) :: r, σ) | true, .inr q => X (nxt, L, vR q :: r, σ) | _, _ => False) | _ => False)
    | 21 => (match st with | .inl x :: .inr (.inr (.inl p)) :: r => (match Nat.beq (zcls p) a, zfv p b with | true, .inl n => X (nxt, L, r, zsetS σ n x) | _, _ => False) | _ => False)
    | 22 => (match st with | .inl x :: .inr (.inr (.inl p)) :: r => (match Nat.beq (zcls p) a, zfv p b with | true, .inl n => (x = 0 ∨ x = 1) ∧ X (nxt, L, r, zsetS σ n x) | _, _ => False) | _ => False)
    | 23 => (match st with | .inl i :: .inr (.inr (.inl p)) :: r => (match Nat.beq (zcls p) 20, zarr p with | true, (n, g) => (0 ≤ i ∧ i < n) ∧ X (nxt, L, vI (σ.2 g i.toNat) :: r, σ) | _, _ => False) | _ => False)
    | 24 => (match st with | .inl x :: .inl i :: .inr (.inr (.inl p)) :: r => (match Nat.beq (zcls p) 20, zarr p with | true, (n, g) => (0 ≤ i ∧ i < n) ∧ X (nxt, L, r, zsetA σ g (zup (σ.2 g) i.toNat x)) | _, _ => False) | _ => False)
    | 25 => (match st with | .inl i :: .inr (.inr (.inl p)) :: r => (match Nat.beq (zcls p) 21, zarr p with | true, (n, g) => (0 ≤ i ∧ i < n) ∧ X (nxt, L, vI (σ.2 g i.toNat) :: r, σ) | _, _ => False) | _ => False)
    | 26 => (match st with | .inl x :: .inl i :: .inr (.inr (.inl p)) :: r => (match Nat.beq (zcls p) 21, zarr p with | true, (n, g) => (0 ≤ i ∧ i < n) ∧ X (nxt, L, r, zsetA σ g (zup (σ.2 g) i.toNat (zbin 3 x 1))) | _, _ => False) | _ => False)
    | 27 => (match st with | .inr (.inr (.inl p)) :: r => (match zcls p with | 20 => X (nxt, L, vI (zarr p).1 :: r, σ) | 22 => X (nxt, L, vI 4 :: r, σ) | 23 => X (nxt, L, vI 4 :: r, σ) | _ => False) | _ => False)
    | 28 => (match zpop b [] st with
        | some (as, r) => (match zrcv a as, Nat.ble (zcsum r) 8 with | true, true => Call a as σ fun σ' v => X (nxt, L, v.toList ++ r, σ') | _, _ => False)
        | none => False)
    | 29 => (match st with
        | .inl n :: .inl dp :: .inr (.inr (.inl p)) :: .inl sp :: .inr (.inr (.inl q)) :: [] => (match Nat.beq (zcls p) 20, Nat.beq (zcls q) 20 with
          | true, true => ((0 ≤ sp ∧ 0 ≤ dp ∧ 0 ≤ n) ∧ sp + n ≤ (zarr q).1 ∧ dp + n ≤ (zarr p).1) ∧ X (nxt, L, [], zsetA σ (zarr p).2 (zcpy (σ.2 (zarr q).2) (σ.2 (zarr p).2) sp.toNat dp.toNat n.toNat))
          | _, _ => False)
        | _ => False)
    | 30 => (match st with | .inr (.inr (.inl k)) :: r => X (nxt, L, .inr (.inr (.inl k)) :: .inr (.inr (.inl k)) :: r, σ) | _ => False)
    | 31 => (match st with | .inl i :: .inr (.inr (.inl k)) :: r => X (nxt, L, .inl i :: .inr (.inr (.inl k)) :: .inl i :: .inr (.inr (.inl k)) :: r, σ) | _ => False)
    | 32 => (match st with | .inl _ :: r => X (nxt, L, r, σ) | _ => False)
    | 33 => X (nxt, L, vN :: st, σ)
    | 34 => (match st with | .inl x :: [] => K σ (some (.inl x)) | _ => False)
    | 35 => (match st with | .inl x :: [] => (x = 0 ∨ x = 1) ∧ K σ (some (.inl x)) | _ => False)
    | 36 => (match st with | .inl x :: [] => x = 0 ∧ K σ (some (.inl x)) | _ => False)
    | 37 => (match st with | [] => K σ none | _ => False)
    | 38 => X (nxt, L, vR 41 :: st, σ)
    | 39 => (match st with | .inr (.inl x) :: [] => K σ (some (.inr (.inl x))) | _ => False)
    | 40 => (match st with | .inr (.inr (.inl k)) :: [] => K σ (some (.inr (.inr (.inl k)))) | .inr (.inr (.inr true)) :: [] => K σ (some vN) | _ => False)
    | 41 => (match st with | .inl i :: .inr (.inr (.inl p)) :: r => (match Nat.beq (zcls p) 23 with | true => (0 ≤ i ∧ i < 4) ∧ X (nxt, L, vI (zbyt i.toNat) :: r, σ) | _ => False) | _ => False)
    | 42 => (match st with | .inl x :: r => X (zswt x, L, r, σ) | _ => False)
    | 43 => (match st with | .inr (.inr (.inl p)) :: r => (match Nat.beq (zcls p) 7, a with | true, 9 => X (nxt, L, vR 42 :: r, σ) | true, 15 => X (nxt, L, vI 0 :: r, σ) | _, _ => False) | _ => False)
    | 44 => (match st with | .inl i :: .inr (.inr (.inl p)) :: r => (match Nat.beq (zcls p) 24 with | true => (0 ≤ i ∧ i < sL) ∧ X (nxt, L, vI (xs i.toNat) :: r, σ) | _ => False) | _ => False)
    | 45 => (match st with | .inl i :: .inr (.inr (.inl p)) :: r => (match Nat.beq (zcls p) 22 with | true => (0 ≤ i ∧ i < 4) ∧ X (nxt, L, vR (zshp i.toNat) :: r, σ) | _ => False) | _ => False)
    | 46 => X (nxt, L, vI 1 :: st, σ)
    | 47 => (match st with | .inr (.inr (.inl p)) :: r => (match Nat.beq (zcls p) 24 with | true => X (nxt, L, vI sL :: r, σ) | _ => False) | _ => False)
    | 48 => (match st with | .inl y :: .inl x :: r => (match Nat.ble (zcsum r) 20 with | true => X (nxt, L, vI (if x < y then y else x) :: r, σ) | false => False) | _ => False)
    | 49 => (match st with | .inl y :: .inl x :: r => (match Nat.ble (zcsum r) 20 with | true => X (nxt, L, vI (if y < x then y else x) :: r, σ) | false => False) | _ => False)
    | _ => False
def zStep (mi : Nat) (S : zS) : Prop := match Nat.blt S.1 (zN mi) with
  | true => zEx Call K sL xs X (zcode mi S.1) S.2.1 S.2.2.1 S.2.2.2
  | false => False
end ZX
/-- from S the machine comes to an end at which K holds (the least such predicate) -/
def zGo (St : (zS → Prop) → zS → Prop) (S : zS) : Prop := ∀ X : zS → Prop, (∀ S, St X S → X S) → (∀ S k, X (S.1, zcut k S.2.1, S.2.2) → X S) → X S
/-- a call of method mi, at most d calls deep, ends so that K holds of memory and answer -/
def zC : Nat → Nat → List zV → zM → (zM → Option zV → Prop) → Prop
  | 0 => fun _ _ _ _ => False
  | d + 1 => fun mi as σ K => match Nat.ble (zlay as).length (zl mi) with
    | true => zGo (zStep (zC d) K 0 (fun _ => 0) · mi) (0, zpad (zl mi) (zlay as), [], σ)
    | false => False
