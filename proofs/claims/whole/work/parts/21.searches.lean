/-! the rules as held in a memory; the contracts again, as searches take them -/
def zbd (C law least : Int) : Prop := 2 ≤ C ∧ C ≤ 4 ∧ 0 ≤ law ∧ law ≤ 3 ∧ 1 ≤ least ∧ least ≤ 9
def zrl (σ : zM) (C law least : Int) : Prop := σ.1 4 = C ∧ σ.1 5 = law ∧ σ.1 6 = least
def zpr (σ : zM) (p : Nat → Int) : Prop := ∀ k, k < 4 → σ.2 4 k = p k
theorem zfr_2 {S A S' A' : List Nat} {σ τ υ : zM} (h1 : zfr S A σ τ) (h2 : zfr S' A' τ υ) (hS : ∀ n ∈ S', n ∈ S) (hA : ∀ n ∈ A', n ∈ A) : zfr S A σ υ :=
  zfr_tr h1 h2 (fun n hn => (List.mem_append.mp hn).elim id (hS n)) (fun n hn => (List.mem_append.mp hn).elim id (hA n))
theorem zrl_fr {S A : List Nat} {σ τ : zM} {C law least : Int} (h : zrl σ C law least) (hf : zfr S A σ τ) (hS : 4 ∉ S ∧ 5 ∉ S ∧ 6 ∉ S) : zrl τ C law least :=
  ⟨(hf.1 4 hS.1).trans h.1, (hf.1 5 hS.2.1).trans h.2.1, (hf.1 6 hS.2.2).trans h.2.2⟩
theorem zpr_fr {S A : List Nat} {σ τ : zM} {p : Nat → Int} (h : zpr σ p) (hf : zfr S A σ τ) (hA : 4 ∉ A) : zpr τ p := fun k hk => by rw [hf.2 4 hA]; exact h k hk
section LS
variable {d : Nat} {σ : zM} {K : zM → Option zV → Prop} {r : Nat} {C law least : Int} {l : List Int}
theorem v_faultOf (hr : r < 4) (hb : zbd C law least) (hw : zrl σ C law least) (hz : zis σ r l) (hc : zcol l) (hl : l.length ≤ 72) (q1 : K σ (some (vI ((zfau law least l : Nat) : Int)))) : zC (d + 4) 13 [vR 4, vR (zrw r)] σ K := by
  obtain ⟨h1, h2, h3⟩ := hw
  subst h2; subst h3
  exact s_faultOf hr ⟨hb.2.2.1, hb.2.2.2.1⟩ hb.2.2.2.2 hz hc hl q1
theorem v_holds (hr : r < 4) (hb : zbd C law least) (hw : zrl σ C law least) (hz : zis σ r l) (hc : zcol l) (hl : l.length ≤ 72) {fr to : Nat} (hft : fr ≤ to) (hto : to ≤ l.length) (q1 : zhold law least l fr to → K σ (some (vI 1))) (q2 : ¬ zhold law least l fr to → K σ (some (vI 0))) : zC (d + 4) 14 [vR 4, vR (zrw r), vI fr, vI to] σ K := by
  obtain ⟨h1, h2, h3⟩ := hw
  subst h2; subst h3
  exact s_holds hr ⟨hb.2.2.1, hb.2.2.2.1⟩ hb.2.2.2.2 hz hc hl hft hto q1 q2
theorem v_stands (hr : r < 4) (hb : zbd C law least) (hw : zrl σ C law least) (hz : zis σ r l) (hc : zcol l) (hl : l.length < 72) {c : Int} (h0 : 0 ≤ c) (h4 : c < 4) (q1 : ∀ τ, zfr [r] [r] σ τ → zis τ r (l ++ [c]) → zend law least (l ++ [c]) = 0 → K τ (some (vI 1))) (q2 : ∀ τ, zfr [r] [r] σ τ → zis τ r (l ++ [c]) → zend law least (l ++ [c]) ≠ 0 → K τ (some (vI 0))) : zC (d + 4) 15 [vR 4, vR (zrw r), vI c] σ K := by
  obtain ⟨h1, h2, h3⟩ := hw
  subst h2; subst h3
  exact s_stands hr ⟨hb.2.2.1, hb.2.2.2.1⟩ hb.2.2.2.2 hz hc hl h0 h4 q1 q2
theorem v_endw (hr : r < 4) (hb : zbd C law least) (hw : zrl σ C law least) (hz : zis σ r l) (hc : zcol l) {fr to : Nat} (hft : fr ≤ to) (hto : to ≤ l.length) (hl : l.length ≤ 72) (q1 : K σ (some (vI ((zends law least (zsh (zlf l) fr) (to - fr) : Nat) : Int)))) : zC (d + 3) 17 [vR 4, vR (zrw r), vI fr, vI to] σ K := by
  obtain ⟨h1, h2, h3⟩ := hw
  subst h2; subst h3
  refine s_endw hr ⟨hb.2.2.1, hb.2.2.2.1⟩ hb.2.2.2.2 hft (by omega) (fun k _ g => zis_c hz hc k (by omega)) (zKe q1 ?_)
  rw [zends_congr (f := zsh (zlf l) fr) (g := zsh (σ.2 r) fr) (fun k hk => (hz.2 (fr + k) (by omega)).symm)]
theorem v_add (hr : r < 4) (hz : zis σ r l) (hl : l.length < 72) {c : Int} (q1 : ∀ τ, zfr [r] [r] σ τ → zis τ r (l ++ [c]) → K τ none) : zC (d + 1) 3 [vR (zrw r), vI c] σ K := by
  have hn : (σ.1 r).toNat = l.length := by rw [hz.1]; omega
  refine s_add hr (fun _ _ => q1 _ (zfr_S (zfr_A zfr_rf (by simp)) (by simp)) (zis_add hz (by rw [zS_1, hz.1]) (fun k hk => by rw [zS_2, zA_2, zup_n (by omega)]) (by rw [zS_2, zA_2, hn, zup_1]))) (fun q => absurd hl (by rw [hz.1] at q; omega))
theorem v_at (hr : r < 4) (hz : zis σ r l) (hl : l.length ≤ 72) {i : Int} {k : Nat} (hi : i = k) (hk : k < l.length) (q1 : K σ (some (vI (zlf l k)))) : zC (d + 1) 1 [vR (zrw r), vI i] σ K :=
  s_atv hr (by omega) (by omega) (by rw [hi]; exact hz.2 k hk) q1
theorem v_put (hr : r < 4) (hz : zis σ r l) (hl : l.length ≤ 72) {i c : Int} {k : Nat} (hi : i = k) (hk : k < l.length) (q1 : ∀ τ, zfr [] [r] σ τ → zis τ r (l.set k c) → K τ none) : zC (d + 1) 2 [vR (zrw r), vI i, vI c] σ K := by
  refine s_put hr (fun _ _ => q1 _ (zfr_A zfr_rf (by simp)) ⟨by rw [zA_1, hz.1, List.length_set], fun j hj => ?_⟩) (fun q => by omega)
  rw [List.length_set] at hj
  rw [zA_2]
  have e : i.toNat = k := by omega
  rw [e]
  by_cases hjk : j = k
  · subst hjk
    rw [zup_1]
    unfold zlf
    rw [List.getD_eq_getElem?_getD, List.getElem?_set_self hj]; rfl
  · rw [zup_n hjk, hz.2 j hj]
    unfold zlf
    rw [List.getD_eq_getElem?_getD, List.getD_eq_getElem?_getD, List.getElem?_set_ne (fun q => hjk q.symm)]
end LS
/-- the longer one; the second one if none is -/
def zbest (l b : List Int) : List Int := if b.length < l.length then l else b
/-- goes on over colours from c on, n of them -/
def zvisC (law least : Int) (V : List Int → List Int → List Int × Bool) (l : List Int) : Nat → Nat → List Int → List Int × Bool
  | 0, _, b => (b, false)
  | n + 1, c, b => if zend law least (l ++ [(c : Int)]) = 0 then (if (V (l ++ [(c : Int)]) b).2 = true then ((V (l ++ [(c : Int)]) b).1, true) else zvisC law least V l n (c + 1) (V (l ++ [(c : Int)]) b).1) else zvisC law least V l n (c + 1) b
/-- the first longest row behind l, m more at most, if it is longer than b -/
def zvis (C : Nat) (law least : Int) : Nat → List Int → List Int → List Int × Bool
  | 0, l, b => (zbest l b, true)
  | m + 1, l, b => zvisC law least (zvis C law least m) l C 0 (zbest l b)
