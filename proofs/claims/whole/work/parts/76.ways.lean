/-! storms: all ways in order -/
theorem zhold_c {law least : Int} {l l2 : List Int} {fr to : Nat} (h1 : to ≤ l.length) (h2 : to ≤ l2.length) (h : ∀ x, x < to → zlf l2 x = zlf l x) : zhold law least l2 fr to ↔ zhold law least l fr to := by
  have e : ∀ e, e ≤ to → zend law least (l2.take e) = zend law least (l.take e) := fun e he => by
    rw [← zend_t (by omega), ← zend_t (by omega)]
    exact zends_congr fun k hk => h k (by omega)
  unfold zhold
  constructor
  · intro g e0 e1 e2; rw [← e e0 e2]; exact g e0 e1 e2
  · intro g e0 e1 e2; rw [e e0 e2]; exact g e0 e1 e2
theorem zhold_no {law least : Int} {l : List Int} {fr to : Nat} (h : to ≤ l.length) (hn : ¬ zhold law least l fr to) : zfau law least l ≠ 0 := fun q => hn fun e h1 h2 => zfau_0.mp q e (by omega) (by omega)
/-- the row of way w: j digits, the first one at the k-th lost pale -/
def zwr (C : Nat) (pos : Nat → Nat) : Nat → Nat → Nat → List Int → List Int
  | 0, _, _, l => l
  | j + 1, k, w, l => zwr C pos j (k + 1) (w % C ^ j) (l.set (pos k) ((w / C ^ j : Nat) : Int))
def zwy (law least : Int) (R : Nat → List Int) : Nat → Nat → List (List Int)
  | 0, _ => []
  | m + 1, w => (if zfau law least (R w) = 0 then [R w] else []) ++ zwy law least R m (w + 1)
theorem zwy_app {law least : Int} {R : Nat → List Int} {b : Nat} : ∀ (a w : Nat), zwy law least R (a + b) w = zwy law least R a w ++ zwy law least R b (w + a)
  | 0, w => by rw [Nat.zero_add, zwy, Nat.add_zero]; rfl
  | a + 1, w => by
    rw [show a + 1 + b = (a + b) + 1 by omega, zwy, zwy, zwy_app a (w + 1), List.append_assoc, show w + 1 + a = w + (a + 1) by omega]
theorem zwy_congr {law least : Int} {R S : Nat → List Int} : ∀ (m w v : Nat), (∀ t, t < m → R (w + t) = S (v + t)) → zwy law least R m w = zwy law least S m v
  | 0, _, _, _ => rfl
  | m + 1, w, v, h => by
    have h0 : R w = S v := h 0 (by omega)
    rw [zwy, zwy, h0, zwy_congr m (w + 1) (v + 1) (fun t ht => by rw [show w + 1 + t = w + (t + 1) by omega, show v + 1 + t = v + (t + 1) by omega]; exact h (t + 1) (by omega))]
theorem zwy_nil {law least : Int} {R : Nat → List Int} : ∀ (m w : Nat), (∀ t, t < m → zfau law least (R (w + t)) ≠ 0) → zwy law least R m w = []
  | 0, _, _ => rfl
  | m + 1, w, h => by
    have h0 : zfau law least (R w) ≠ 0 := h 0 (by omega)
    rw [zwy, if_neg h0, zwy_nil m (w + 1) (fun t ht => by rw [show w + 1 + t = w + (t + 1) by omega]; exact h (t + 1) (by omega))]
    rfl
theorem zwr_sim {C : Nat} {pos : Nat → Nat} {n : Nat} : ∀ (j k w : Nat) (l : List Int), j + k = n → zsim pos n k l (zwr C pos j k w l)
  | 0, k, _, l, _ => zsim_rf pos n k l
  | j + 1, k, w, l, h => by
    have ih := zwr_sim (C := C) (pos := pos) (n := n) j (k + 1) (w % C ^ j) (l.set (pos k) ((w / C ^ j : Nat) : Int)) (by omega)
    rw [zwr]
    refine ⟨by rw [ih.1, List.length_set], fun i hi hq => ?_⟩
    rw [ih.2 i (by rw [List.length_set]; exact hi) (fun q h1 h2 => hq q (by omega) h2), zlf_set_n (hq k (Nat.le_refl _) (by omega))]
def zpk (pos : Nat → Nat) (n len k : Nat) : Nat := if k < n then pos k else len
theorem zpk_nx (pos : Nat → Nat) (n len k : Nat) : znxt pos n len k = zpk pos n len (k + 1) := rfl
/-- the lawful ones of all ways are the class's -/
theorem zwr_mc {C : Nat} {law least : Int} {pos : Nat → Nat} {n : Nat} (hC : 1 ≤ C) (hmon : ∀ a b, a < b → b < n → pos a < pos b) : ∀ (j k : Nat) (l : List Int), j + k = n → (∀ i, i < n → pos i < l.length) → zhold law least l 0 (zpk pos n l.length k) → zwy law least (fun w => zwr C pos j k w l) (C ^ j) 0 = zmc C law least pos n j k l
  | 0, k, l, hjk, hpl, hh => by
    have e : zpk pos n l.length k = l.length := by unfold zpk; rw [if_neg (by omega)]
    rw [e] at hh
    have hf : zfau law least l = 0 := zfau_0.mpr fun e h1 h2 => hh e (by omega) h2
    show (if zfau law least l = 0 then [l] else []) ++ [] = [l]
    rw [if_pos hf]; rfl
  | j + 1, k, l, hjk, hpl, hh => by
    have ek : zpk pos n l.length k = pos k := by unfold zpk; rw [if_pos (by omega)]
    rw [ek] at hh
    have hpos : 0 < C ^ j := Nat.pow_pos (by omega)
    have hnl : znxt pos n l.length k ≤ l.length := by
      unfold znxt
      split
      · exact Nat.le_of_lt (hpl _ (by omega))
      · exact Nat.le_refl _
    have hpn : pos k ≤ znxt pos n l.length k := by
      unfold znxt
      split
      · exact Nat.le_of_lt (hmon _ _ (by omega) (by omega))
      · exact Nat.le_of_lt (hpl _ (by omega))
    have g : ∀ (nn c : Nat), c + nn = C → zwy law least (fun w => zwr C pos (j + 1) k w l) (nn * C ^ j) (c * C ^ j) = zmcC (fun c => zholdb law least (l.set (pos k) (c : Int)) (pos k) (znxt pos n l.length k)) (fun c => zmc C law least pos n j (k + 1) (l.set (pos k) (c : Int))) nn c := by
      intro nn
      induction nn with
      | zero => intro c _; rw [Nat.zero_mul]; rfl
      | succ nn ih =>
        intro c hc
        rw [Nat.succ_mul, Nat.add_comm (nn * C ^ j), zwy_app, show c * C ^ j + C ^ j = (c + 1) * C ^ j by rw [Nat.succ_mul], ih (c + 1) (by omega), zmcC]
        congr 1
        have eb : zwy law least (fun w => zwr C pos (j + 1) k w l) (C ^ j) (c * C ^ j) = zwy law least (fun w => zwr C pos j (k + 1) w (l.set (pos k) (c : Int))) (C ^ j) 0 := by
          refine zwy_congr _ _ _ fun t ht => ?_
          show zwr C pos (j + 1) k (c * C ^ j + t) l = zwr C pos j (k + 1) (0 + t) (l.set (pos k) (c : Int))
          rw [zwr, Nat.zero_add, Nat.mul_add_mod_of_lt ht, Nat.mul_comm c, Nat.mul_add_div hpos, Nat.div_eq_of_lt ht]
          rfl
        rw [eb]
        by_cases hb : zholdb law least (l.set (pos k) (c : Int)) (pos k) (znxt pos n l.length k) = true
        · rw [if_pos hb]
          refine zwr_mc hC hmon j (k + 1) _ (by omega) (fun i hi => by rw [List.length_set]; exact hpl i hi) ?_
          rw [List.length_set, ← zpk_nx]
          have h1 : zhold law least (l.set (pos k) (c : Int)) 0 (pos k) := (zhold_c (Nat.le_of_lt (hpl k (by omega))) (by rw [List.length_set]; exact Nat.le_of_lt (hpl k (by omega))) (fun x hx => zlf_set_n (by omega))).mpr hh
          have h2 := zholdb_t.mp hb
          intro e e1 e2
          by_cases e3 : e ≤ pos k
          · exact h1 e e1 e3
          · exact h2 e (by omega) e2
        · rw [if_neg hb]
          have hb : zholdb law least (l.set (pos k) (c : Int)) (pos k) (znxt pos n l.length k) = false := by cases hz : zholdb law least (l.set (pos k) (c : Int)) (pos k) (znxt pos n l.length k); rfl; exact absurd hz hb
          refine zwy_nil _ _ fun t ht => ?_
          have hs := zwr_sim (C := C) (pos := pos) (n := n) j (k + 1) (0 + t) (l.set (pos k) (c : Int)) (by omega)
          have hz := zhold_sim (law := law) (least := least) (fr := pos k) hmon (fun i hi => by rw [List.length_set]; exact hpl i hi) hs
          rw [List.length_set, hb] at hz
          exact zhold_no (by rw [hs.1, List.length_set]; exact hnl) (zholdb_f.mp hz)
    have := g C 0 (Nat.zero_add _)
    rw [Nat.zero_mul] at this
    rw [show C ^ (j + 1) = C * C ^ j by rw [Nat.pow_succ, Nat.mul_comm], this, zmc]
def zsa (C : Nat) (law least : Int) (pos : Nat → Nat) (n : Nat) (l : List Int) : List (List Int) := if zholdb law least l 0 (pos 0) = true then zmc C law least pos n n 0 l else []
theorem zwr_all {C : Nat} {law least : Int} {pos : Nat → Nat} {n : Nat} {l : List Int} (hC : 1 ≤ C) (hn : 1 ≤ n) (hmon : ∀ a b, a < b → b < n → pos a < pos b) (hpl : ∀ i, i < n → pos i < l.length) : zwy law least (fun w => zwr C pos n 0 w l) (C ^ n) 0 = zsa C law least pos n l := by
  have e0 : zpk pos n l.length 0 = pos 0 := if_pos (by omega)
  unfold zsa
  by_cases hb : zholdb law least l 0 (pos 0) = true
  · rw [if_pos hb]
    exact zwr_mc hC hmon n 0 l (by omega) hpl (by rw [e0]; exact zholdb_t.mp hb)
  · rw [if_neg hb]
    refine zwy_nil _ _ fun t ht => ?_
    have hs := zwr_sim (C := C) (pos := pos) (n := n) n 0 (0 + t) l (by omega)
    have hp0 := hpl 0 (by omega)
    refine zhold_no (fr := 0) (to := pos 0) (by rw [hs.1]; omega) (fun q => hb (zholdb_t.mpr ((zhold_c (by omega) (by rw [hs.1]; omega) (fun x hx => hs.2 x (by omega) (fun a h1 h2 => ?_))).mp q)))
    by_cases ha : a = 0
    · subst ha; omega
    · have := hmon 0 a (by omega) h2
      omega
theorem zwr_at {C : Nat} {pos : Nat → Nat} {n : Nat} (hmon : ∀ a b, a < b → b < n → pos a < pos b) : ∀ (j k w : Nat) (l : List Int), j + k = n → (∀ i, i < n → pos i < l.length) → w < C ^ j → ∀ i, k ≤ i → i < n → zlf (zwr C pos j k w l) (pos i) = (((w / C ^ (n - 1 - i)) % C : Nat) : Int)
  | 0, k, w, l, h, _, _, i, h1, h2 => by omega
  | j + 1, k, w, l, h, hpl, hw, i, h1, h2 => by
    rw [zwr]
    have hC : 0 < C := by
      rcases Nat.eq_zero_or_pos C with e | e
      · rw [e, Nat.pow_succ, Nat.mul_zero] at hw; omega
      · exact e
    have hpos : 0 < C ^ j := Nat.pow_pos hC
    by_cases e : i = k
    · subst e
      have hs := zwr_sim (C := C) (pos := pos) (n := n) j (i + 1) (w % C ^ j) (l.set (pos i) ((w / C ^ j : Nat) : Int)) (by omega)
      rw [hs.2 (pos i) (by rw [List.length_set]; exact hpl i h2) (fun q g1 g2 => by have := hmon i q (by omega) g2; omega), zlf_set_e (hpl i h2), show n - 1 - i = j by omega, Nat.mod_eq_of_lt]
      exact (Nat.div_lt_iff_lt_mul hpos).mpr (by rw [Nat.pow_succ, Nat.mul_comm] at hw; exact hw)
    · rw [zwr_at hmon j (k + 1) _ _ (by omega) (fun i hi => by rw [List.length_set]; exact hpl i hi) (Nat.mod_lt _ hpos) i (by omega) h2]
      obtain ⟨t, ht⟩ : ∃ t, j = (n - 1 - i) + (t + 1) := ⟨j - (n - 1 - i) - 1, by omega⟩
      rw [show C ^ j = C ^ (n - 1 - i) * C ^ (t + 1) by rw [← Nat.pow_add, ← ht], Nat.mod_mul_right_div_self, Nat.mod_mod_of_dvd _ (show C ∣ C ^ (t + 1) from ⟨C ^ t, by rw [Nat.pow_succ, Nat.mul_comm]⟩)]
theorem zpw4 {C k : Nat} (hC : C ≤ 4) (hk : k ≤ 4) : C ^ k ≤ 256 :=
  Nat.le_trans (Nat.pow_le_pow_left hC k) (Nat.le_trans (Nat.pow_le_pow_right (by decide) hk) (by decide))
