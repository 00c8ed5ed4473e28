/-! the small machine and the heap: what a memory is as cells; the locals; numbers -/
def zA (ad : Nat → Nat) : Nat → Prop := fun q => ∃ k : Nat, k < 41 ∧ q = ad k
def zcv (ad : Nat → Nat) : zV → Value := fun v => match v with
  | .inl x => .int (Int32.ofInt x)
  | .inr (.inl x) => .long (Int64.ofInt x)
  | .inr (.inr (.inl k)) => .ref (ad k)
  | .inr (.inr (.inr _)) => .null
def zi32 (x : Int) : Prop := -2147483648 ≤ x ∧ x < 2147483648
def zi64 (x : Int) : Prop := -9223372036854775808 ≤ x ∧ x < 9223372036854775808
def zokV : zV → Prop := fun v => match v with
  | .inl x => zi32 x
  | .inr (.inl x) => zi64 x
  | _ => True
def zokM (σ : zM) : Prop := (∀ n, zi32 (σ.1 n)) ∧ ∀ a j, zi32 (σ.2 a j)
def zfw (ad : Nat → Nat) (σ : zM) (p k : Nat) : Value := match zfv p k with
  | .inl n => .int (Int32.ofInt (σ.1 n))
  | .inr q => .ref (ad q)
def zcell (dA ad : Nat → Nat) (σ : zM) (p : Nat) : va_E :=
  if zcls p < 7 then .inr (zcls p, (List.range (zNf (zcls p))).map (zfw ad σ p))
  else if zcls p = 20 then .inl (dA 0, (zarr p).1, .inl (fun j => Int32.ofInt (σ.2 (zarr p).2 j)))
  else if zcls p = 21 then .inl (dA 1, (zarr p).1, .inl (fun j => Int32.ofInt (σ.2 (zarr p).2 j)))
  else .inl (dA 2, 4, .inr (.inr (.inr (.inr (fun j => some (ad (zshp j)))))))
def zwl (dA ad : Nat → Nat) (σ : zM) : va_W := (List.range 41).map (fun p => (ad p, zcell dA ad σ p))
abbrev ztys (dA : Nat → Nat) : List (ClassId × FieldType) := [(dA 0, .int), (dA 1, .boolean), (dA 2, .object "PaleFence$Sheet")]
theorem zwl_at {dA ad : Nat → Nat} {σ : zM} {p : Nat} (h : p < 41) : (zwl dA ad σ)[p]? = some (ad p, zcell dA ad σ p) := by
  simp [zwl, List.getElem?_map, List.getElem?_range h]
theorem zwl_len {dA ad : Nat → Nat} {σ : zM} : (zwl dA ad σ).length = 41 := by simp [zwl]
theorem zcls_lt {p : Nat} (h : zcls p < 23) (h7 : zcls p ≠ 7) : p < 41 := by
  by_cases hp : p < 44
  · have : ∀ q, q < 44 → zcls q < 23 → zcls q ≠ 7 → q < 41 := by decide +kernel
    exact this p hp h h7
  · exfalso
    have e : zcls p = 99 := by
      obtain ⟨q, rfl⟩ : ∃ q, p = q + 44 := ⟨p - 44, by omega⟩
      rfl
    omega
/-- the fields of an object: which scalars are whose -/
def zfo : Nat → Nat × Nat := fun n => match n with | 0 => (2, 1) | 1 => (7, 1) | 2 => (22, 1) | 3 => (24, 1) | 4 => (4, 0) | 5 => (4, 1) | 6 => (4, 2) | 7 => (9, 0) | 8 => (9, 1) | 9 => (9, 2) | 10 => (1, 2) | 11 => (6, 2) | 12 => (0, 2) | 13 => (11, 1) | 14 => (14, 1) | 15 => (14, 2) | 16 => (16, 1) | 17 => (16, 2) | 18 => (18, 1) | 19 => (18, 2) | 20 => (20, 1) | 21 => (20, 2) | 22 => (27, 2) | 23 => (27, 4) | _ => (99, 99)
theorem zfo_ok : ∀ p, p < 41 → ∀ k, k < 15 → k < zNf (zcls p) → (match zfv p k with | .inl n => decide (zfo n = (p, k)) | .inr _ => true) = true := by decide +kernel
theorem zfv_inj : ∀ p, p < 41 → ∀ k, k < 15 → ∀ p', p' < 41 → ∀ k', k' < 15 → k < zNf (zcls p) → k' < zNf (zcls p') → ∀ n, zfv p k = .inl n → zfv p' k' = .inl n → p = p' ∧ k = k' := by
  intro p hp k hk p' hp' k' hk' h1 h2 n e1 e2
  have a1 := zfo_ok p hp k hk h1
  have a2 := zfo_ok p' hp' k' hk' h2
  rw [e1] at a1
  rw [e2] at a2
  have b1 := of_decide_eq_true a1
  have b2 := of_decide_eq_true a2
  have := b1.symm.trans b2
  exact ⟨congrArg Prod.fst this, congrArg Prod.snd this⟩
theorem zarr_inj : ∀ p, p < 41 → ∀ p', p' < 41 → (zcls p = 20 ∨ zcls p = 21) → (zcls p' = 20 ∨ zcls p' = 21) → (zarr p).2 = (zarr p').2 → p = p' := by decide +kernel
theorem zNf_le : ∀ p, p < 41 → zNf (zcls p) ≤ 15 := by decide +kernel
theorem zcell_setS {dA ad : Nat → Nat} {σ : zM} {p b n : Nat} {x : Int} (hp : p < 41) (hc : zcls p < 7) (hb : b < zNf (zcls p)) (hf : zfv p b = .inl n) :
    (zwl dA ad σ).set p (ad p, .inr (zcls p, ((List.range (zNf (zcls p))).map (zfw ad σ p)).set b (.int (Int32.ofInt x)))) = zwl dA ad (zsetS σ n x) := by
  apply List.ext_getElem?
  intro q
  by_cases hq : q < 41
  · rw [zwl_at hq]
    by_cases hqp : q = p
    · subst hqp
      rw [List.getElem?_set_self (by rw [zwl_len]; exact hq)]
      have e : zcell dA ad (zsetS σ n x) q = .inr (zcls q, (List.range (zNf (zcls q))).map (zfw ad (zsetS σ n x) q)) := by
        unfold zcell; rw [if_pos hc]
      rw [e]
      refine congrArg (fun l : List Value => some (ad q, (Sum.inr (zcls q, l) : va_E))) ?_
      apply List.ext_getElem?
      intro k
      by_cases hk : k < zNf (zcls q)
      · by_cases hkb : k = b
        · subst hkb
          rw [List.getElem?_set_self (by simpa using hk)]
          simp [List.getElem?_map, List.getElem?_range hk, zfw, hf, zsetS, zup]
        · rw [List.getElem?_set_ne (Ne.symm hkb)]
          simp only [List.getElem?_map, List.getElem?_range hk, Option.map_some]
          congr 1
          unfold zfw
          cases hz : zfv q k with
          | inl n' =>
            have hne : n' ≠ n := fun e => hkb (zfv_inj q hq k (by have := zNf_le q hq; omega) q hq b (by have := zNf_le q hq; omega) hk hb n (e ▸ hz) hf).2
            simp [zsetS, zup, hne]
          | inr r => rfl
      · rw [List.getElem?_eq_none (by simpa using hk), List.getElem?_eq_none (by simpa using hk)]
    · rw [List.getElem?_set_ne (Ne.symm hqp), zwl_at hq]
      congr 2
      unfold zcell
      split
      · rename_i hq7
        refine congrArg (fun l : List Value => (Sum.inr (zcls q, l) : va_E)) ?_
        apply List.ext_getElem?
        intro k
        by_cases hk : k < zNf (zcls q)
        · simp only [List.getElem?_map, List.getElem?_range hk, Option.map_some]
          congr 1
          unfold zfw
          cases hz : zfv q k with
          | inl n' =>
            have hne : n' ≠ n := fun e => hqp (zfv_inj q hq k (by have := zNf_le q hq; omega) p hp b (by have := zNf_le p hp; omega) hk hb n (e ▸ hz) hf).1
            simp [zsetS, zup, hne]
          | inr r => rfl
        · rw [List.getElem?_eq_none (by simpa using hk), List.getElem?_eq_none (by simpa using hk)]
      · rfl
  · rw [List.getElem?_eq_none (by simp [zwl_len]; omega), List.getElem?_eq_none (by simp [zwl_len]; omega)]
theorem zcell_setA {dA ad : Nat → Nat} {σ : zM} {p t : Nat} {f : Nat → Int} {g : Nat → Int32} (hp : p < 41) (hc : zcls p = 20 ∧ t = 0 ∨ zcls p = 21 ∧ t = 1) (hg : g = fun j => Int32.ofInt (f j)) :
    (zwl dA ad σ).set p (ad p, .inl (dA t, (zarr p).1, .inl g)) = zwl dA ad (zsetA σ (zarr p).2 f) := by
  have hc' : zcls p = 20 ∨ zcls p = 21 := by rcases hc with h | h <;> simp [h.1]
  apply List.ext_getElem?
  intro q
  by_cases hq : q < 41
  · rw [zwl_at hq]
    by_cases hqp : q = p
    · subst hqp
      rw [List.getElem?_set_self (by rw [zwl_len]; exact hq)]
      congr 2
      unfold zcell
      rcases hc with ⟨h, rfl⟩ | ⟨h, rfl⟩
      · rw [h, if_neg (by decide), if_pos rfl, hg]
        simp [zsetA, zupA]
      · rw [h, if_neg (by decide), if_neg (by decide), if_pos rfl, hg]
        simp [zsetA, zupA]
    · rw [List.getElem?_set_ne (Ne.symm hqp), zwl_at hq]
      congr 2
      unfold zcell
      split
      · rfl
      · split
        · rename_i h1 h2
          have hne : (zarr q).2 ≠ (zarr p).2 := fun e => hqp (zarr_inj q hq p hp (Or.inl h2) hc' e)
          simp [zsetA, zupA, hne]
        · split
          · rename_i h1 h2 h3
            have hne : (zarr q).2 ≠ (zarr p).2 := fun e => hqp (zarr_inj q hq p hp (Or.inr h3) hc' e)
            simp [zsetA, zupA, hne]
          · rfl
  · rw [List.getElem?_eq_none (by simp [zwl_len]; omega), List.getElem?_eq_none (by simp [zwl_len]; omega)]
/-! numbers -/
theorem zof32 (x : Int32) : zi32 x.toInt := ⟨by have := x.le_toInt; omega, by have := x.toInt_lt; omega⟩
theorem zof64 (x : Int64) : zi64 x.toInt := ⟨by have := x.le_toInt; omega, by have := x.toInt_lt; omega⟩
theorem zto32 {x : Int} (h : zi32 x) : (Int32.ofInt x).toInt = x := Int32.toInt_ofInt_of_le (by have := h.1; omega) (by have := h.2; omega)
theorem zto64 {x : Int} (h : zi64 x) : (Int64.ofInt x).toInt = x := Int64.toInt_ofInt_of_le (by have := h.1; omega) (by have := h.2; omega)
theorem zbin_ok (b : Nat) (x y : Int) : zi32 (zbin b x y) := by
  unfold zbin; split <;> exact zof32 _
theorem zlbin_ok (b : Nat) (x y : Int) : zi64 (zlbin b x y) := by
  unfold zlbin; split <;> exact zof64 _
theorem zlsh_ok (b : Nat) (x y : Int) : zi64 (zlsh b x y) := by
  unfold zlsh; split <;> exact zof64 _
theorem zeq32 {x y : Int} (hx : zi32 x) (hy : zi32 y) : Int32.ofInt x = Int32.ofInt y ↔ x = y := by
  rw [← Int32.toInt_inj, zto32 hx, zto32 hy]
theorem zlt32 {x y : Int} (hx : zi32 x) (hy : zi32 y) : Int32.ofInt x < Int32.ofInt y ↔ x < y := by
  rw [Int32.lt_iff_toInt_lt, zto32 hx, zto32 hy]
theorem zle32 {x y : Int} (hx : zi32 x) (hy : zi32 y) : Int32.ofInt x ≤ Int32.ofInt y ↔ x ≤ y := by
  rw [Int32.le_iff_toInt_le, zto32 hx, zto32 hy]
theorem zcl32 {x : Int} (hx : zi32 x) : (Int32.ofInt x).toNatClampNeg = x.toNat := by
  show (Int32.ofInt x).toInt.toNat = _
  rw [zto32 hx]
theorem zi320 : zi32 0 := ⟨by decide, by decide⟩
theorem zin32 {x : Int} {n : Nat} (hx : zi32 x) (h : 0 ≤ x ∧ x < n) : vp_in (Int32.ofInt x) n := by
  intro q
  rcases q with q | q
  · have := (zlt32 hx zi320).mp q; omega
  · rw [zcl32 hx] at q; omega
/-! locals -/
def zlc (ad : Nat → Nat) : Nat → List zV → List (Nat × Value)
  | _, [] => []
  | i, v :: l => match v with
    | .inr (.inr (.inr false)) => zlc ad (i + 1) l
    | w => (i, zcv ad w) :: zlc ad (i + 1) l
theorem zlc_mem {ad : Nat → Nat} : ∀ (L : List zV) (i : Nat) (q : Nat × Value), q ∈ zlc ad i L ↔ ∃ (j : Nat) (v : zV), L[j]? = some v ∧ v ≠ vU ∧ q = (i + j, zcv ad v)
  | [], i, q => by simp [zlc]
  | v :: l, i, q => by
    have ih := zlc_mem (ad := ad) l (i + 1) q
    by_cases hv : v = vU
    · subst hv
      show q ∈ zlc ad (i + 1) l ↔ _
      rw [ih]
      constructor
      · rintro ⟨j, w, h1, h2, h3⟩
        exact ⟨j + 1, w, by simpa using h1, h2, by rw [h3]; congr 1; omega⟩
      · rintro ⟨j, w, h1, h2, h3⟩
        cases j with
        | zero => simp at h1; exact absurd h1.symm h2
        | succ j => exact ⟨j, w, by simpa using h1, h2, by rw [h3]; congr 1; omega⟩
    · have e : zlc ad i (v :: l) = (i, zcv ad v) :: zlc ad (i + 1) l := by
        rcases v with x | x | k | b
        · rfl
        · rfl
        · rfl
        · cases b
          · exact absurd rfl hv
          · rfl
      rw [e, List.mem_cons, ih]
      constructor
      · rintro (h | ⟨j, w, h1, h2, h3⟩)
        · exact ⟨0, v, rfl, hv, h⟩
        · exact ⟨j + 1, w, by simpa using h1, h2, by rw [h3]; congr 1; omega⟩
      · rintro ⟨j, w, h1, h2, h3⟩
        cases j with
        | zero =>
          simp at h1
          subst h1
          exact Or.inl h3
        | succ j => exact Or.inr ⟨j, w, by simpa using h1, h2, by rw [h3]; congr 1; omega⟩
theorem zlc_at {ad : Nat → Nat} {L : List zV} {ls : Array Slot} {n i : Nat} {v : zV} (h : lv_has ls n (zlc ad 0 L)) (hL : L[i]? = some v) (hv : v ≠ vU) : ls[i]? = some (.val (zcv ad v)) :=
  h.2.2 (i, zcv ad v) ((zlc_mem L 0 _).mpr ⟨i, v, hL, hv, by simp⟩)
def zlong : zV → Bool := fun v => match v with | .inr (.inl _) => true | _ => false
theorem zlong_cat {ad : Nat → Nat} {v : zV} : ((zcv ad v).category == 2) = zlong v := by
  rcases v with x | x | k | b <;> rfl
theorem zunl_get {L : List zV} {j : Nat} {w : zV} (h : (zunl L)[j]? = some w) : w = vU ∨ (L[j]? = some w ∧ ¬ (j = 0 ∧ zlong w = true)) := by
  cases L with
  | nil => simp [zunl] at h
  | cons v l =>
    cases j with
    | zero =>
      rcases v with x | x | k | b <;> simp [zunl] at h <;> subst h
      · exact Or.inr ⟨rfl, by simp [zlong]⟩
      · exact Or.inl rfl
      · exact Or.inr ⟨rfl, by simp [zlong]⟩
      · exact Or.inr ⟨rfl, by simp [zlong]⟩
    | succ j => exact Or.inr ⟨by simpa [zunl] using h, by omega⟩
theorem zst1_get : ∀ (i : Nat) (v : zV) (L : List zV) (j : Nat) (w : zV), (zst1 i v L)[j]? = some w → w = vU ∨ (j = i ∧ w = v) ∨ (j ≠ i ∧ L[j]? = some w ∧ ¬ (j + 1 = i ∧ zlong w = true))
  | 0, v, [], j, w, h => by simp [zst1] at h
  | 0, v, a :: l, j, w, h => by
    cases j with
    | zero => simp [zst1] at h; exact Or.inr (Or.inl ⟨rfl, h.symm⟩)
    | succ j => exact Or.inr (Or.inr ⟨by omega, by simpa [zst1] using h, by omega⟩)
  | 1, v, [], j, w, h => by simp [zst1] at h
  | 1, v, [a], j, w, h => by
    rcases zunl_get (L := [a]) (j := j) (by simpa [zst1] using h) with q | ⟨q1, q2⟩
    · exact Or.inl q
    · cases j with
      | zero => exact Or.inr (Or.inr ⟨by omega, q1, fun z => q2 ⟨rfl, z.2⟩⟩)
      | succ j => simp at q1
  | 1, v, a :: b :: l, j, w, h => by
    cases j with
    | zero =>
      rcases zunl_get (L := [a]) (j := 0) (w := w) (by simpa [zst1, zunl] using h) with q | ⟨q1, q2⟩
      · exact Or.inl q
      · exact Or.inr (Or.inr ⟨by omega, by simpa using q1, fun z => q2 ⟨rfl, z.2⟩⟩)
    | succ j =>
      cases j with
      | zero => simp [zst1] at h; exact Or.inr (Or.inl ⟨rfl, h.symm⟩)
      | succ j => exact Or.inr (Or.inr ⟨by omega, by simpa [zst1] using h, by omega⟩)
  | n + 2, v, [], j, w, h => by simp [zst1] at h
  | n + 2, v, a :: l, j, w, h => by
    cases j with
    | zero => exact Or.inr (Or.inr ⟨by omega, by simpa [zst1] using h, by omega⟩)
    | succ j =>
      rcases zst1_get (n + 1) v l j w (by simpa [zst1] using h) with q | ⟨q1, q2⟩ | ⟨q1, q2, q3⟩
      · exact Or.inl q
      · exact Or.inr (Or.inl ⟨by omega, q2⟩)
      · exact Or.inr (Or.inr ⟨by omega, by simpa using q2, fun z => q3 ⟨by omega, z.2⟩⟩)
theorem zst1_len : ∀ (i : Nat) (v : zV) (L : List zV), (zst1 i v L).length = L.length
  | 0, _, [] => rfl
  | 0, _, _ :: _ => rfl
  | 1, _, [] => rfl
  | 1, _, [_] => rfl
  | 1, _, _ :: _ :: _ => rfl
  | _ + 2, _, [] => rfl
  | n + 2, v, _ :: l => by simp [zst1, zst1_len (n + 1) v l]
theorem zst1_ok {i : Nat} {v : zV} {L : List zV} (hL : ∀ w ∈ L, zokV w) (hv : zokV v) : ∀ w ∈ zst1 i v L, zokV w := by
  intro w hw
  obtain ⟨j, hj⟩ := List.getElem?_of_mem hw
  rcases zst1_get i v L j w hj with q | ⟨-, q⟩ | ⟨-, q, -⟩
  · rw [q]; trivial
  · rw [q]; exact hv
  · exact hL w (List.mem_of_getElem? q)
theorem zst1_has {ad : Nat → Nat} {ls : Array Slot} {n i : Nat} {v : zV} {L : List zV} (h : lv_has ls n ((i, zcv ad v) :: (zlc ad 0 L).filter (fun q => !(q.1 == i) && !(q.1 + 1 == i && q.2.category == 2)))) : lv_has ls n (zlc ad 0 (zst1 i v L)) := by
  refine ⟨h.1, h.2.1, fun q hq => h.2.2 q ?_⟩
  obtain ⟨j, w, h1, h2, rfl⟩ := (zlc_mem _ 0 q).mp hq
  rcases zst1_get i v L j w h1 with q | ⟨q1, q2⟩ | ⟨q1, q2, q3⟩
  · exact absurd q h2
  · subst q1; subst q2
    simp
  · refine List.mem_cons_of_mem _ (List.mem_filter.mpr ⟨(zlc_mem _ 0 _).mpr ⟨j, w, q2, h2, rfl⟩, ?_⟩)
    simp only [zlong_cat, Nat.zero_add]
    rw [Bool.and_eq_true]
    refine ⟨by simpa using q1, ?_⟩
    cases hj : (j + 1 == i) with
    | false => rfl
    | true =>
      have : j + 1 = i := by simpa using hj
      cases hl : zlong w with
      | false => rfl
      | true => exact absurd ⟨this, hl⟩ q3
theorem zst2_has {ad : Nat → Nat} {ls : Array Slot} {n i : Nat} {x : Int} {L : List zV} (h : lv_has ls n ((i, .long (Int64.ofInt x)) :: (zlc ad 0 L).filter (fun q => !(q.1 == i) && (!(q.1 == i + 1) && !(q.1 + 1 == i && q.2.category == 2))))) : lv_has ls n (zlc ad 0 (zst2 i (.inr (.inl x)) L)) := by
  refine ⟨h.1, h.2.1, fun q hq => h.2.2 q ?_⟩
  obtain ⟨j, w, h1, h2, rfl⟩ := (zlc_mem _ 0 q).mp hq
  rcases zst1_get i _ _ j w h1 with q | ⟨q1, q2⟩ | ⟨q1, q2, q3⟩
  · exact absurd q h2
  · subst q1; subst q2
    rw [Nat.zero_add]
    exact List.mem_cons_self
  · rcases zst1_get (i + 1) vU L j w q2 with r | ⟨-, r⟩ | ⟨r1, r2, -⟩
    · exact absurd r h2
    · exact absurd r h2
    · refine List.mem_cons_of_mem _ (List.mem_filter.mpr ⟨(zlc_mem _ 0 _).mpr ⟨j, w, r2, h2, rfl⟩, ?_⟩)
      simp only [zlong_cat, Nat.zero_add]
      rw [Bool.and_eq_true, Bool.and_eq_true]
      refine ⟨by simpa using q1, by simpa using r1, ?_⟩
      cases hj : (j + 1 == i) with
      | false => rfl
      | true =>
        have : j + 1 = i := by simpa using hj
        cases hl : zlong w with
        | false => rfl
        | true => exact absurd ⟨this, hl⟩ q3
theorem zcut_get {k : Nat} {L : List zV} {j : Nat} {w : zV} (h : (zcut k L)[j]? = some w) : w = vU ∨ L[j]? = some w := by
  unfold zcut at h
  rw [List.getElem?_append] at h
  split at h
  · rw [List.getElem?_take] at h
    split at h
    · exact Or.inr h
    · cases h
  · rw [List.getElem?_replicate] at h
    split at h
    · exact Or.inl (Option.some.inj h).symm
    · cases h
theorem zcut_len {k : Nat} {L : List zV} : (zcut k L).length = L.length := by
  simp [zcut]; omega
theorem zcut_has {ad : Nat → Nat} {ls : Array Slot} {n k : Nat} {L : List zV} (h : lv_has ls n (zlc ad 0 L)) : lv_has ls n (zlc ad 0 (zcut k L)) := by
  refine ⟨h.1, h.2.1, fun q hq => h.2.2 q ?_⟩
  obtain ⟨j, w, h1, h2, rfl⟩ := (zlc_mem _ 0 q).mp hq
  rcases zcut_get h1 with q | q
  · exact absurd q h2
  · exact (zlc_mem _ 0 _).mpr ⟨j, w, q, h2, rfl⟩
theorem zcut_ok {k : Nat} {L : List zV} (hL : ∀ w ∈ L, zokV w) : ∀ w ∈ zcut k L, zokV w := by
  intro w hw
  obtain ⟨j, hj⟩ := List.getElem?_of_mem hw
  rcases zcut_get hj with q | q
  · rw [q]; trivial
  · exact hL w (List.mem_of_getElem? q)
theorem zokM_S {σ : zM} {n : Nat} {x : Int} (h : zokM σ) (hx : zi32 x) : zokM (zsetS σ n x) := by
  refine ⟨fun j => ?_, h.2⟩
  show zi32 (if j = n then x else σ.1 j)
  split
  · exact hx
  · exact h.1 j
theorem zokM_A {σ : zM} {g : Nat} {f : Nat → Int} (h : zokM σ) (hf : ∀ j, zi32 (f j)) : zokM (zsetA σ g f) := by
  refine ⟨h.1, fun a j => ?_⟩
  show zi32 ((if a = g then f else σ.2 a) j)
  split
  · exact hf j
  · exact h.2 a j
theorem zok_up {f : Nat → Int} {k : Nat} {x : Int} (hf : ∀ j, zi32 (f j)) (hx : zi32 x) : ∀ j, zi32 (zup f k x j) := by
  intro j
  unfold zup
  split
  · exact hx
  · exact hf j
theorem zpop_spec : ∀ (n : Nat) (acc st as r : List zV), zpop n acc st = some (as, r) → ∃ pre, st = pre ++ r ∧ as = pre.reverse ++ acc ∧ pre.length = n
  | 0, acc, st, as, r, h => by
    simp [zpop] at h
    exact ⟨[], by simp [h.2], by simp [h.1], rfl⟩
  | n + 1, acc, [], as, r, h => by simp [zpop] at h
  | n + 1, acc, v :: st, as, r, h => by
    obtain ⟨pre, h1, h2, h3⟩ := zpop_spec n (v :: acc) st as r (by simpa [zpop] using h)
    exact ⟨v :: pre, by simp [h1], by simp [h2], by simp [h3]⟩
theorem zcsum_eq {ad : Nat → Nat} : ∀ r : List zV, ((r.map (zcv ad)).map fun v => v.category).sum = zcsum r
  | [] => rfl
  | v :: l => by
    have ih := zcsum_eq (ad := ad) l
    rcases v with x | x | k | b <;> simp only [List.map_cons, List.sum_cons, ih] <;> rfl
theorem zcl_at : ∀ a, a < 7 → vwCl[a]? = some (zR a, zT a, zNf a) := by
  intro a h
  match a, h with
  | 0, _ => rfl
  | 1, _ => rfl
  | 2, _ => rfl
  | 3, _ => rfl
  | 4, _ => rfl
  | 5, _ => rfl
  | 6, _ => rfl
theorem zin_all : ∀ a, a < 7 → ∀ w ∈ u_ws (zR a) (zT a) (zNf a), w ∈ zGT := by
  intro a h
  match a, h with
  | 0, _ => exact zin_0
  | 1, _ => exact zin_1
  | 2, _ => exact zin_2
  | 3, _ => exact zin_3
  | 4, _ => exact zin_4
  | 5, _ => exact zin_5
  | 6, _ => exact zin_6
theorem zty_ok : ∀ a, a < 7 → ∀ k, k < zNf a → parseFieldDescriptor (zT a k).2.2.1 = some (zty a k) := by
  intro a h
  match a, h with
  | 0, _ => exact tyX0_ok
  | 1, _ => exact tyX1_ok
  | 2, _ => exact tyX2_ok
  | 3, _ => exact tyX3_ok
  | 4, _ => exact tyX4_ok
  | 5, _ => exact tyX5_ok
  | 6, _ => exact tyX6_ok
theorem znm_ok : ∀ a, a < 7 → ∀ i, i < zNf a → ∀ j, j < zNf a → i ≠ j → (zT a i).2.1 ≠ (zT a j).2.1 := by
  intro a h
  match a, h with
  | 0, _ => exact nmX0
  | 1, _ => exact nmX1
  | 2, _ => exact nmX2
  | 3, _ => exact nmX3
  | 4, _ => exact nmX4
  | 5, _ => exact nmX5
  | 6, _ => exact nmX6
theorem zcls_7 {q : Nat} (h : zcls q = 7) : q = 41 := by
  by_cases hp : q < 44
  · have : ∀ q, q < 44 → zcls q = 7 → q = 41 := by decide +kernel
    exact this q hp h
  · exfalso
    obtain ⟨r, rfl⟩ : ∃ r, q = r + 44 := ⟨q - 44, by omega⟩
    have e : zcls (r + 44) = 99 := rfl
    omega
theorem zown_obj : ∀ a, a < 138 → zkd a = 0 → zown a ≤ 7 := by decide +kernel
