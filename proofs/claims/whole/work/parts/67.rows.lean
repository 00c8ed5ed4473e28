/-! the rows in order, one behind the other; rotations -/
theorem zmcC_mem {H : Nat → Bool} {F : Nat → List (List Int)} {q : List Int} : ∀ (n c : Nat), q ∈ zmcC H F n c → ∃ k, c ≤ k ∧ k < c + n ∧ H k = true ∧ q ∈ F k
  | 0, _, h => absurd h List.not_mem_nil
  | n + 1, c, h => by
    rw [zmcC] at h
    rcases List.mem_append.mp h with h | h
    · by_cases hk : H c = true
      · rw [if_pos hk] at h; exact ⟨c, Nat.le_refl _, by omega, hk, h⟩
      · rw [if_neg hk] at h; exact absurd h List.not_mem_nil
    · obtain ⟨k, h1, h2, h3, h4⟩ := zmcC_mem n (c + 1) h
      exact ⟨k, by omega, by omega, h3, h4⟩
theorem zok_1 {law least : Int} {l : List Int} {c : Nat} (h : zok law least l c = true) : zend law least (l ++ [(c : Int)]) = 0 := of_decide_eq_true h
/-- each of them is lawful, of the length that is due, with colours that there are -/
theorem zenu_mem {C : Nat} {law least : Int} : ∀ (m : Nat) (l q : List Int), q ∈ zenu C law least m l → zfau law least l = 0 → (∀ x ∈ l, 0 ≤ x ∧ x < (C : Int)) → q.length = l.length + m ∧ zfau law least q = 0 ∧ ∀ x ∈ q, 0 ≤ x ∧ x < (C : Int)
  | 0, l, q, h, hf, hc => by
    rw [zenu] at h
    rw [List.mem_singleton.mp h]
    exact ⟨rfl, hf, hc⟩
  | m + 1, l, q, h, hf, hc => by
    rw [zenu] at h
    obtain ⟨k, h1, h2, h3, h4⟩ := zmcC_mem C 0 h
    have h5 := zenu_mem m (l ++ [(k : Int)]) q h4 (zfau_app.mpr ⟨hf, zok_1 h3⟩) (fun x hx => by
      rcases List.mem_append.mp hx with g | g
      · exact hc x g
      · rw [List.mem_singleton.mp g]; omega)
    rw [zlen1] at h5
    exact ⟨by omega, h5.2⟩
def znx (C : Nat) (law least : Int) (N : Nat) (q : List Int) (R : List (List Int)) : Prop := R = zbk C law least 0 q.reverse ∧ q.length = N ∧ zfau law least q = 0 ∧ ∀ x ∈ q, 0 ≤ x ∧ x < (C : Int)
theorem zbk_nx {C : Nat} {law least : Int} : ∀ (r : List Int) (m : Nat) (q : List Int) (R : List (List Int)), zbk C law least m r = q :: R → zfau law least r.reverse = 0 → (∀ x ∈ r, 0 ≤ x ∧ x < (C : Int)) → znx C law least (r.length + m) q R
  | [], m, q, R, h, _, _ => nomatch h
  | x :: r, m, q, R, h, hf, hc => by
    have hx := hc x List.mem_cons_self
    rw [List.reverse_cons] at hf
    have hf2 := (zfau_app.mp hf).1
    have hc2 : ∀ y ∈ r, 0 ≤ y ∧ y < (C : Int) := fun y hy => hc y (List.mem_cons_of_mem _ hy)
    have hn := zenu_next (C := C) (law := law) (least := least) m (C - (x.toNat + 1)) (x.toNat + 1) r.reverse (by omega)
    rw [zbk] at h
    rcases hn with e | ⟨q', R', e1, e2, _, e4⟩
    · rw [e, List.nil_append] at h
      have := zbk_nx r (m + 1) q R h hf2 hc2
      rw [show (x :: r).length + m = r.length + (m + 1) by rw [List.length_cons]; omega]
      exact this
    · have hm : q' ∈ zmcC (zok law least r.reverse) (fun c => zenu C law least m (r.reverse ++ [(c : Int)])) (C - (x.toNat + 1)) (x.toNat + 1) := by rw [e1]; exact List.mem_cons_self
      obtain ⟨k, g1, g2, g3, g4⟩ := zmcC_mem _ _ hm
      have g5 := zenu_mem m _ q' g4 (zfau_app.mpr ⟨hf2, zok_1 g3⟩) (fun y hy => by
        rcases List.mem_append.mp hy with g | g
        · exact hc2 y (List.mem_reverse.mp g)
        · rw [List.mem_singleton.mp g]; omega)
      rw [e1] at h
      obtain ⟨rfl, rfl⟩ := List.cons.inj h
      rw [List.reverse_reverse] at e4
      exact ⟨e4, by rw [e2, List.length_reverse, List.length_cons]; omega, g5.2⟩
theorem zenu_nx {C : Nat} {law least : Int} {N : Nat} {q : List Int} {R : List (List Int)} (hN : 1 ≤ N) (h : zenu C law least N [] = q :: R) : znx C law least N q R := by
  obtain ⟨m, rfl⟩ : ∃ m, N = m + 1 := ⟨N - 1, by omega⟩
  have hm := zenu_mem (m + 1) [] q (by rw [h]; exact List.mem_cons_self) zfau_nil (fun x hx => absurd hx List.not_mem_nil)
  have hn := zenu_next (C := C) (law := law) (least := least) m C 0 [] (by omega)
  rcases hn with e | ⟨q', R', e1, e2, _, e4⟩
  · rw [zenu, e] at h; cases h
  · rw [zenu, e1] at h
    obtain ⟨rfl, rfl⟩ := List.cons.inj h
    have e5 : R' ++ zbk C law least (m + 1) [] = R' := List.append_nil _
    rw [List.reverse_nil, e5] at e4
    exact ⟨e4, by rw [hm.1]; simp, hm.2⟩
theorem znx_next {C : Nat} {law least : Int} {N : Nat} {q q2 : List Int} {R R2 : List (List Int)} (h : znx C law least N q R) (e : R = q2 :: R2) : znx C law least N q2 R2 := by
  obtain ⟨h1, h2, h3, h4⟩ := h
  have := zbk_nx q.reverse 0 q2 R2 (h1.symm.trans e) (by rw [List.reverse_reverse]; exact h3) (fun x hx => h4 x (List.mem_reverse.mp hx))
  rw [List.length_reverse, h2] at this
  exact this
theorem znx_col {C : Nat} {law least : Int} {N : Nat} {q : List Int} {R : List (List Int)} (h : znx C law least N q R) (hC : C ≤ 4) : zcol q := fun x hx => by
  have := h.2.2.2 x hx
  omega
/-! rotations -/
def zrot (q : List Int) (i : Nat) : List Int := (List.range q.length).map (fun k => zlf q ((i + k) % q.length))
theorem zrot_len (q : List Int) (i : Nat) : (zrot q i).length = q.length := by unfold zrot; rw [List.length_map, List.length_range]
theorem zrot_lf {q : List Int} {i k : Nat} (h : k < q.length) : zlf (zrot q i) k = zlf q ((i + k) % q.length) := by
  unfold zrot
  show ((List.range q.length).map (fun k => zlf q ((i + k) % q.length))).getD k 0 = _
  rw [List.getD_eq_getElem?_getD, List.getElem?_map, List.getElem?_range h]
  rfl
theorem zends_0 {law least : Int} (hM : 1 ≤ least) {f : Nat → Int} {n : Nat} : zends law least f n = 0 ↔ ∀ len, zstart law least ≤ len → ztimes law * len ≤ n → zhit law f n len = false := by
  have hs : 1 ≤ zstart law least := by unfold zstart; split <;> omega
  have ht : 1 ≤ ztimes law := by unfold ztimes; split <;> omega
  constructor
  · intro h len h1 h2
    refine zfirst_none (C := fun len => decide (ztimes law * len ≤ n)) (fun j k hjk hk => ?_) (n + 1) (zstart law least) hs ?_ h len h1 (decide_eq_true h2)
    · exact decide_eq_true (Nat.le_trans (Nat.mul_le_mul_left _ hjk) (of_decide_eq_true hk))
    · refine decide_eq_false fun q => ?_
      have : zstart law least + (n + 1) ≤ ztimes law * (zstart law least + (n + 1)) := Nat.le_mul_of_pos_left _ ht
      omega
  · intro h
    exact zfirst_none' _ _ (fun j h1 h2 => h j h1 (of_decide_eq_true h2))
theorem zhit_sh {law : Int} {f : Nat → Int} {a n len : Nat} (h : ztimes law * len ≤ n) : zhit law (zsh f a) n len = zhit law f (a + n) len := by
  by_cases h1 : law = 1
  · have h3 : 3 * len ≤ n := by rw [show ztimes law = 3 from if_pos h1] at h; exact h
    rw [show a + n = a + n from rfl, zhit_1 h1, zhit_1 h1, zlike_n (by omega), zlike_n (by omega), zlike_n (by omega), zlike_n (by omega), zeqb_sh (by omega), zeqb_sh (by omega), show a + (n - len) = a + n - len by omega]
  · have h2 : 2 * len ≤ n := by rw [show ztimes law = 2 from if_neg h1] at h; exact h
    rw [zhit_0 h1, zhit_0 h1]
    by_cases h4 : law = 2
    · rw [zlike_2 h4, zlike_2 h4, zanyb_sh h2]
    · rw [zlike_n h4, zlike_n h4, zeqb_sh h2]
/-- a row round and round -/
def zper (q : List Int) : Nat → Int := fun k => zlf q (k % q.length)
theorem zper_n (q : List Int) : zsh (zper q) q.length = zper q := by
  funext k
  unfold zsh zper
  rw [Nat.add_mod_left]
theorem zring_per {law least : Int} {q : List Int} {i : Nat} (h : i < q.length) : zends law least (zsh (zlf (q ++ q)) i) q.length = zends law least (zsh (zper q) i) q.length := by
  refine zends_congr fun k hk => ?_
  unfold zsh zper
  by_cases e : i + k < q.length
  · rw [zlf_l e, Nat.mod_eq_of_lt e]
  · rw [zlf_r (by omega), Nat.mod_eq_sub_mod (by omega), Nat.mod_eq_of_lt (by omega)]
theorem zrot_per {law least : Int} {q : List Int} {i e : Nat} (he : e ≤ q.length) : zend law least ((zrot q i).take e) = zends law least (zsh (zper q) i) e := by
  rw [← zend_t (by rw [zrot_len]; exact he)]
  refine zends_congr fun k hk => ?_
  rw [zrot_lf (by omega)]
  rfl
/-- a lawful row is a ring if each of its rotations is lawful -/
theorem zringb_rot {law least : Int} {q : List Int} (hM : 1 ≤ least) (hf : zfau law least q = 0) : zringb law least q = true ↔ ∀ i, 1 ≤ i → i < q.length → zfau law least (zrot q i) = 0 := by
  rw [zringb_t]
  constructor
  · intro h i h1 h2
    refine zfau_0.mpr fun e e1 e2 => ?_
    rw [zrot_len] at e2
    rw [zrot_per e2]
    refine (zends_0 hM).mpr fun len l1 l2 => ?_
    rw [zhit_sh l2]
    by_cases c : i + e < q.length
    · have h3 := h (i + e) c
      rw [zring_per c] at h3
      have h4 := (zends_0 hM).mp h3 len l1 (by omega)
      rw [zhit_sh (by omega), Nat.add_comm (i + e) q.length, ← zhit_sh (f := zper q) (a := q.length) (by omega), zper_n] at h4
      exact h4
    · have h3 := h (i + e - q.length) (by omega)
      rw [zring_per (by omega)] at h3
      have h4 := (zends_0 hM).mp h3 len l1 (by omega)
      rw [zhit_sh (by omega), show i + e - q.length + q.length = i + e by omega] at h4
      exact h4
  · intro h i hi
    rw [zring_per hi]
    by_cases h0 : i = 0
    · subst h0
      have h3 := zfau_0.mp hf q.length (by omega) (Nat.le_refl _)
      rw [List.take_length] at h3
      exact (zends_congr fun k hk => by unfold zsh zper; rw [Nat.zero_add, Nat.mod_eq_of_lt hk]).trans h3
    · have h3 := zfau_0.mp (h i (by omega) hi) q.length (by omega) (by rw [zrot_len]; exact Nat.le_refl _)
      rw [zrot_per (Nat.le_refl _)] at h3
      exact h3
