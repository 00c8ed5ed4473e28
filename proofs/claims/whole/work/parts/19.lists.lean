/-! rows as lists -/
def zlf (l : List Int) : Nat → Int := fun k => l.getD k 0
def zis (σ : zM) (r : Nat) (l : List Int) : Prop := σ.1 r = (l.length : Int) ∧ ∀ k, k < l.length → σ.2 r k = zlf l k
/-- only colours -/
def zcol (l : List Int) : Prop := ∀ x ∈ l, 0 ≤ x ∧ x < 4
def zend (law least : Int) (l : List Int) : Nat := zends law least (zlf l) l.length
def zfau (law least : Int) (l : List Int) : Nat := zflt law least (zlf l) l.length
theorem zlf_l {l m : List Int} {k : Nat} (h : k < l.length) : zlf (l ++ m) k = zlf l k := by
  unfold zlf
  rw [List.getD_eq_getElem?_getD, List.getD_eq_getElem?_getD, List.getElem?_append_left h]
theorem zlf_r {l m : List Int} {k : Nat} (h : l.length ≤ k) : zlf (l ++ m) k = zlf m (k - l.length) := by
  unfold zlf
  rw [List.getD_eq_getElem?_getD, List.getD_eq_getElem?_getD, List.getElem?_append_right h]
theorem zlf_e {l : List Int} {c : Int} : zlf (l ++ [c]) l.length = c := by
  rw [zlf_r (Nat.le_refl _), Nat.sub_self]; rfl
theorem zlf_t {l : List Int} {e k : Nat} (h : k < e) : zlf (l.take e) k = zlf l k := by
  unfold zlf
  rw [List.getD_eq_getElem?_getD, List.getD_eq_getElem?_getD, List.getElem?_take_of_lt h]
theorem zlf_mem {l : List Int} {k : Nat} (h : k < l.length) : zlf l k ∈ l := by
  unfold zlf
  rw [List.getD_eq_getElem?_getD, List.getElem?_eq_getElem h]
  exact List.getElem_mem h
theorem zlf_ext {l m : List Int} (h : l.length = m.length) (h2 : ∀ k, k < l.length → zlf l k = zlf m k) : l = m := by
  refine List.ext_getElem h fun k h1 h3 => ?_
  have := h2 k h1
  unfold zlf at this
  rw [List.getD_eq_getElem?_getD, List.getD_eq_getElem?_getD, List.getElem?_eq_getElem h1, List.getElem?_eq_getElem h3] at this
  exact this
theorem zcol_k {l : List Int} (h : zcol l) {k : Nat} (hk : k < l.length) : 0 ≤ zlf l k ∧ zlf l k < 4 := h _ (zlf_mem hk)
theorem zcol_a {l : List Int} {c : Int} (h : zcol l) (h0 : 0 ≤ c) (h4 : c < 4) : zcol (l ++ [c]) := fun x hx => by
  rcases List.mem_append.mp hx with q | q
  · exact h x q
  · rw [List.mem_singleton.mp q]; exact ⟨h0, h4⟩
theorem zcol_t {l : List Int} (h : zcol l) (n : Nat) : zcol (l.take n) := fun x hx => h x (List.mem_of_mem_take hx)
theorem zcol_nil : zcol [] := fun x hx => absurd hx (List.not_mem_nil)
theorem zis_eq {σ : zM} {r : Nat} {l m : List Int} (h : zis σ r l) (h2 : zis σ r m) : l = m := by
  have e : l.length = m.length := by have := h.1; rw [h2.1] at this; omega
  exact zlf_ext e fun k hk => (h.2 k hk).symm.trans (h2.2 k (by omega))
theorem zis_fr {S A : List Nat} {σ τ : zM} {r : Nat} {l : List Int} (h : zis σ r l) (hf : zfr S A σ τ) (h1 : r ∉ S) (h2 : r ∉ A) : zis τ r l :=
  ⟨(hf.1 r h1).trans h.1, fun k hk => by rw [hf.2 r h2]; exact h.2 k hk⟩
theorem zis_cong {σ τ : zM} {r : Nat} {l : List Int} (h : zis σ r l) (h1 : τ.1 r = σ.1 r) (h2 : ∀ k, k < l.length → τ.2 r k = σ.2 r k) : zis τ r l :=
  ⟨h1.trans h.1, fun k hk => (h2 k hk).trans (h.2 k hk)⟩
theorem zis_c {σ : zM} {r : Nat} {l : List Int} (h : zis σ r l) (hc : zcol l) : ∀ k, k < l.length → 0 ≤ σ.2 r k ∧ σ.2 r k < 4 := fun k hk => by rw [h.2 k hk]; exact zcol_k hc hk
theorem zis_end {σ : zM} {r : Nat} {l : List Int} (h : zis σ r l) (law least : Int) : zends law least (σ.2 r) l.length = zend law least l := zends_congr fun k hk => h.2 k hk
theorem zis_endt {σ : zM} {r : Nat} {l : List Int} (h : zis σ r l) {e : Nat} (he : e ≤ l.length) (law least : Int) : zends law least (σ.2 r) e = zend law least (l.take e) := by
  unfold zend
  rw [List.length_take, Nat.min_eq_left he]
  exact zends_congr fun k hk => by rw [zlf_t hk]; exact h.2 k (by omega)
theorem zis_fau {σ : zM} {r : Nat} {l : List Int} (h : zis σ r l) (law least : Int) : zflt law least (σ.2 r) l.length = zfau law least l := zflt_congr fun k hk => h.2 k hk
theorem zend_t {law least : Int} {l : List Int} {e : Nat} (he : e ≤ l.length) : zends law least (zlf l) e = zend law least (l.take e) := by
  unfold zend
  rw [List.length_take, Nat.min_eq_left he]
  exact zends_congr fun k hk => (zlf_t hk).symm
/-- lawful: every beginning ends well -/
theorem zfau_0 {law least : Int} {l : List Int} : zfau law least l = 0 ↔ ∀ e, 1 ≤ e → e ≤ l.length → zend law least (l.take e) = 0 := by
  unfold zfau
  rw [zflt_0]
  constructor
  · intro h e h1 h2; rw [← zend_t h2]; exact h e h1 h2
  · intro h e h1 h2; rw [zend_t h2]; exact h e h1 h2
theorem zfau_app {law least : Int} {l : List Int} {c : Int} : zfau law least (l ++ [c]) = 0 ↔ zfau law least l = 0 ∧ zend law least (l ++ [c]) = 0 := by
  rw [zfau_0, zfau_0]
  have hl : (l ++ [c]).length = l.length + 1 := by simp
  constructor
  · intro h
    refine ⟨fun e h1 h2 => ?_, ?_⟩
    · have := h e h1 (by omega)
      rw [List.take_append_of_le_length h2] at this
      exact this
    · have := h (l.length + 1) (by omega) (by omega)
      rw [List.take_of_length_le (by omega)] at this
      exact this
  · intro h e h1 h2
    by_cases he : e ≤ l.length
    · rw [List.take_append_of_le_length he]; exact h.1 e h1 he
    · rw [List.take_of_length_le (by omega)]; exact h.2
theorem zfau_nil {law least : Int} : zfau law least [] = 0 := zfau_0.mpr fun e h1 h2 => by simp at h2; omega
theorem zis_add {σ τ : zM} {r : Nat} {l : List Int} {c : Int} (h : zis σ r l) (h1 : τ.1 r = (l.length : Int) + 1) (h2 : ∀ k, k < l.length → τ.2 r k = σ.2 r k) (h3 : τ.2 r l.length = c) : zis τ r (l ++ [c]) :=
  ⟨by rw [h1]; simp, fun k hk => by
    by_cases hkl : k < l.length
    · rw [zlf_l hkl, h2 k hkl]; exact h.2 k hkl
    · have hk2 : k = l.length := by simp at hk; omega
      subst hk2
      rw [zlf_e]; exact h3⟩
theorem zis_cut {σ τ : zM} {r : Nat} {l m : List Int} (h : zis σ r (l ++ m)) (h1 : τ.1 r = (l.length : Int)) (h2 : τ.2 r = σ.2 r) : zis τ r l :=
  ⟨h1, fun k hk => by rw [h2, h.2 k (by simp; omega), zlf_l hk]⟩
