/-! how far: the reference -/
def zbs (σ : zM) (B : Nat) (b : List Int) : Prop := ∀ k, B + k < b.length → σ.2 20 k = zlf b (B + k)
theorem zbs_fr {S A : List Nat} {σ τ : zM} {B : Nat} {b : List Int} (h : zbs σ B b) (hf : zfr S A σ τ) (h2 : 20 ∉ A) : zbs τ B b := fun k hk => by rw [hf.2 20 h2]; exact h k hk
theorem t_reach {d : Nat} {σ : zM} {K : zM → Option zV → Prop} {C : Nat} {law least : Int} {Bn N : Nat} (hL : 0 ≤ law ∧ law ≤ 3) (hM : 1 ≤ least ∧ least ≤ 9) (hC : C ≤ 4) (h10 : σ.2 12 0 = (C : Int)) (h12 : σ.2 12 1 = law) (h13 : σ.2 12 2 = least) (hN : N ≤ 24) (hBN : Bn + N ≤ 70) : ∀ (n m n0 c : Nat) (l b : List Int) (τ : zM), m * 5 + n0 = n → l.length + m + 1 = Bn + N → Bn ≤ l.length → c + n0 = C → zcol l → Bn ≤ b.length → b.length < Bn + N → zfr [] [18, 19, 20] σ τ → zrs τ l → zbs τ Bn b → τ.2 18 l.length = (c : Int) - 1 → ((zvisC law least (zvis C law least m) l n0 c b).2 = true → ∀ υ, zfr [] [18, 19, 20] σ υ → zbs υ Bn (zvisC law least (zvis C law least m) l n0 c b).1 → (zvisC law least (zvis C law least m) l n0 c b).1.length = Bn + N → K υ (some (vI N))) → ((zvisC law least (zvis C law least m) l n0 c b).2 = false → ∀ υ, zfr [] [18, 19, 20] σ υ → zrs υ l → zbs υ Bn (zvisC law least (zvis C law least m) l n0 c b).1 → Bn ≤ (zvisC law least (zvis C law least m) l n0 c b).1.length → (zvisC law least (zvis C law least m) l n0 c b).1.length < Bn + N → zG (d + 3) 100 K 0 zfx (26, [vR 27, vI Bn, vI N, vI (((zvisC law least (zvis C law least m) l n0 c b).1.length : Int) - (Bn : Int)), vI (((l.length : Int) - (Bn : Int)) - 1), vU], [], υ)) → zG (d + 3) 100 K 0 zfx (26, [vR 27, vI Bn, vI N, vI ((b.length : Int) - (Bn : Int)), vI ((l.length : Int) - (Bn : Int)), vU], [], τ) := by
  intro n
  induction n using Nat.strongRecOn with
  | _ n ih =>
  intro m n0 c l b τ hn hm hBl hcn hc hbB hbN hf hrs hbs hrow h1 h2
  have hlc : (l ++ [(c : Int)]).length = l.length + 1 := zlen1
  have fin : ∀ τ', zend law least (l ++ [(c : Int)]) = 0 → c < C → zfr [] [18, 19, 20] σ τ' → zrs τ' (l ++ [(c : Int)]) → τ'.2 18 (l.length + 1) = -1 → zbs τ' Bn (zbest (l ++ [(c : Int)]) b) → Bn ≤ (zbest (l ++ [(c : Int)]) b).length → zG (d + 3) 100 K 0 zfx (26, [vR 27, vI Bn, vI N, vI (((zbest (l ++ [(c : Int)]) b).length : Int) - (Bn : Int)), vI ((l.length : Int) - (Bn : Int) + 1), vU], [], τ') := by
    intro τ' g hcC gf gr grow gb gB
    obtain ⟨n1, rfl⟩ : ∃ n1, n0 = n1 + 1 := ⟨n0 - 1, by omega⟩
    have eV : zvisC law least (zvis C law least m) l (n1 + 1) c b = (if (zvis C law least m (l ++ [(c : Int)]) b).2 = true then ((zvis C law least m (l ++ [(c : Int)]) b).1, true) else zvisC law least (zvis C law least m) l n1 (c + 1) (zvis C law least m (l ++ [(c : Int)]) b).1) := by rw [zvisC, if_pos g]
    rw [eV] at h1 h2
    cases m with
    | zero =>
      have e : zbest (l ++ [(c : Int)]) b = (l ++ [(c : Int)]) := if_pos (by omega)
      have e0 : zvis C law least 0 (l ++ [(c : Int)]) b = ((l ++ [(c : Int)]), true) := by rw [zvis, e]
      rw [e0] at h1
      rw [e] at gb
      rw [e]
      have eN : (((l ++ [(c : Int)]).length : Int) - (Bn : Int)) = (N : Int) := by omega
      rw [eN]
      refine r_iload k_100_26 rfl ?_
      refine r_if_lt k_100_28 (fun hz => absurd hz (by omega)) (fun _ => ?_)
      refine r_iload k_100_31 rfl ?_
      refine r_iload k_100_32 rfl ?_
      refine r_ic_ge k_100_33 (fun _ => ?_) (fun hz => absurd hz (by omega))
      refine r_iload k_100_153 rfl ?_
      refine r_iret k_100_154 ?_
      exact h1 rfl _ gf gb (by show (l ++ [(c : Int)]).length = Bn + N; omega)
    | succ m1 =>
      have eZ : zvis C law least (m1 + 1) (l ++ [(c : Int)]) b = zvisC law least (zvis C law least m1) (l ++ [(c : Int)]) C 0 (zbest (l ++ [(c : Int)]) b) := rfl
      rw [eZ] at h1 h2
      have hzl : (zbest (l ++ [(c : Int)]) b).length < Bn + N := Nat.lt_of_le_of_lt (zbest_len (n := Bn + N - 1) (by omega) (by omega)) (by omega)
      have e1 : ((l.length : Int) - (Bn : Int) + 1) = (((l ++ [(c : Int)]).length : Int) - (Bn : Int)) := by rw [hlc]; omega
      rw [e1]
      refine ih (m1 * 5 + C) (by omega) m1 C 0 (l ++ [(c : Int)]) (zbest (l ++ [(c : Int)]) b) τ' rfl (by omega) (by omega) (by omega) (zcol_a hc (by omega) (by omega)) gB hzl gf gr gb (by rw [hlc, grow]; rfl) (fun ht υ qf qb ql => h1 (by rw [if_pos ht]) υ qf (by rw [if_pos ht]; exact qb) (by rw [if_pos ht]; exact ql)) (fun ht υ qf qr qb qB ql => ?_)
      rw [if_neg (by rw [ht]; decide)] at h1 h2
      have e2 : (((l ++ [(c : Int)]).length : Int) - (Bn : Int) - 1) = ((l.length : Int) - (Bn : Int)) := by rw [hlc]; omega
      rw [e2]
      exact ih _ (by omega) (m1 + 1) n1 (c + 1) l _ υ rfl (by omega) hBl (by omega) hc qB ql qf (zrs_l qr) qb (by rw [zrs_e qr]; omega) h1 h2
  have lpK : ∀ (n' k : Nat) (τ' : zM), l.length + 1 - Bn - k = n' → k ≤ l.length + 1 - Bn → b.length < l.length + 1 → zend law least (l ++ [(c : Int)]) = 0 → c < C → zfr [] [18, 19, 20] σ τ' → zrs τ' (l ++ [(c : Int)]) → τ'.2 18 (l.length + 1) = -1 → (∀ j, j < k → τ'.2 20 j = zlf (l ++ [(c : Int)]) (Bn + j)) → zG (d + 3) 100 K 0 zfx (102, [vR 27, vI Bn, vI N, vI ((b.length : Int) - (Bn : Int)), vI ((l.length : Int) - (Bn : Int) + 1), vI k], [], τ') := by
    intro n'
    induction n' using Nat.strongRecOn with
    | _ n' ihk =>
    intro k τ' hk1 hk2 hbl g hcC gf gr grow gb
    refine r_iload k_100_102 rfl ?_
    refine r_iload k_100_104 rfl ?_
    refine r_ic_ge k_100_106 (fun h106 => ?_) (fun h106 => ?_)
    · skip
      refine r_iload k_100_137 rfl ?_
      refine r_iload k_100_139 rfl ?_
      refine r_ic_le k_100_140 (fun hz => absurd hz (by omega)) (fun _ => ?_)
      refine r_iload k_100_143 rfl ?_
      refine r_goto k_100_145 ?_
      refine r_istore (L' := [vR (27), vI ((Bn : Int)), vI ((N : Int)), vI (((l.length : Int) - (Bn : Int) + 1)), vI (((l.length : Int) - (Bn : Int) + 1)), vI ((k : Int))]) k_100_149 rfl ?_
      refine r_goto k_100_150 ?_
      refine r_cut (L' := [vR 27, vI Bn, vI N, vI (((l.length : Int) - (Bn : Int) + 1)), vI ((l.length : Int) - (Bn : Int) + 1), vU]) 5 rfl ?_
      have e : (zbest (l ++ [(c : Int)]) b) = (l ++ [(c : Int)]) := if_pos (by omega)
      have h := fin _ g hcC gf gr grow (by rw [e]; exact fun j hj => gb j (by omega)) (by rw [e]; omega)
      rw [e, hlc] at h
      have e3 : (((l.length + 1 : Nat) : Int) - (Bn : Int)) = ((l.length : Int) - (Bn : Int) + 1) := by omega
      rw [e3] at h
      exact h
    · skip
      refine r_iload k_100_109 rfl ?_
      refine r_iload k_100_111 rfl ?_
      refine r_ic_le k_100_112 (fun hz => absurd hz (by omega)) (fun _ => ?_)
      refine r_aload k_100_115 rfl ?_
      refine r_getR (q := 36) k_100_116 ⟨rfl, rfl⟩ ?_
      refine r_iload k_100_119 rfl ?_
      refine r_aload k_100_121 rfl ?_
      refine r_getR (q := 34) k_100_122 ⟨rfl, rfl⟩ ?_
      refine r_iload k_100_125 rfl ?_
      refine r_iload k_100_126 rfl ?_
      refine r_bin (v := (Bn : Int) + ((k : Int))) k_100_128 (zb_add ⟨by omega, by omega⟩) ?_
      refine r_iald (v := (zlf (l ++ [(c : Int)]) (Bn + k))) k_100_129 ⟨rfl, rfl⟩ ⟨by omega, by omega⟩ (by rw [show ((Bn : Int) + ((k : Int)) : Int).toNat = Bn + k by omega]; exact gr _ (by omega)) ?_
      refine r_iast k_100_130 ⟨rfl, rfl⟩ ⟨by omega, by omega⟩ ?_
      refine r_iinc (v := (k : Int) + 1) (L' := [vR (27), vI ((Bn : Int)), vI ((N : Int)), vI (((b.length : Int) - (Bn : Int))), vI (((l.length : Int) - (Bn : Int) + 1)), vI ((k : Int) + 1)]) k_100_131 rfl (zb_add ⟨by omega, by omega⟩) rfl ?_
      refine r_goto k_100_134 ?_
      refine ihk _ (by omega) (k + 1) _ rfl (by omega) hbl g hcC (zfr_A gf (by decide)) (fun j hj => gr j hj) grow (fun j hj => ?_)
      rw [zA_2, Int.toNat_natCast]
      by_cases hjk : j = k
      · subst hjk; exact zup_1 _ _ _
      · rw [zup_n hjk]; exact gb j (by omega)
  refine r_iload k_100_26 rfl ?_
  refine r_if_lt k_100_28 (fun hz => absurd hz (by omega)) (fun _ => ?_)
  refine r_iload k_100_31 rfl ?_
  refine r_iload k_100_32 rfl ?_
  refine r_ic_ge k_100_33 (fun hz => absurd hz (by omega)) (fun _ => ?_)
  refine r_aload k_100_36 rfl ?_
  refine r_getR (q := 34) k_100_37 ⟨rfl, rfl⟩ ?_
  refine r_iload k_100_40 rfl ?_
  refine r_iload k_100_41 rfl ?_
  refine r_bin (v := (l.length : Int)) k_100_43 (by rw [zb_add ⟨by omega, by omega⟩]; omega) ?_
  refine r_dup2 k_100_44 ?_
  refine r_iald (v := ((c : Int) - 1)) k_100_45 ⟨rfl, rfl⟩ ⟨by omega, by omega⟩ hrow ?_
  refine r_const k_100_46 ?_
  refine r_bin (v := (c : Int)) k_100_47 (by rw [zb_add ⟨by omega, by omega⟩]; omega) ?_
  refine r_iast k_100_48 ⟨rfl, rfl⟩ ⟨by omega, by omega⟩ ?_
  refine r_aload k_100_49 rfl ?_
  refine r_getR (q := 34) k_100_50 ⟨rfl, rfl⟩ ?_
  refine r_iload k_100_53 rfl ?_
  refine r_iload k_100_54 rfl ?_
  refine r_bin (v := (l.length : Int)) k_100_56 (by rw [zb_add ⟨by omega, by omega⟩]; omega) ?_
  refine r_iald (v := (c : Int)) k_100_57 ⟨rfl, rfl⟩ ⟨by omega, by omega⟩ (by rw [zA_2]; exact zup_1 _ _ _) ?_
  refine r_aload k_100_58 rfl ?_
  refine r_getR (q := 28) k_100_59 ⟨rfl, rfl⟩ ?_
  refine r_const k_100_62 ?_
  refine r_iald (v := (C : Int)) k_100_63 ⟨rfl, rfl⟩ ⟨by decide, by decide⟩ ((congrFun (hf.2 12 (by decide)) 0).trans h10) ?_
  refine r_ic_lt k_100_64 (fun h64 => ?_) (fun h64 => ?_)
  · skip
    refine r_aload k_100_73 rfl ?_
    refine r_iload k_100_74 rfl ?_
    refine r_iload k_100_75 rfl ?_
    refine r_bin (v := (l.length : Int)) k_100_77 (by rw [zb_add ⟨by omega, by omega⟩]; omega) ?_
    refine r_const k_100_78 ?_
    refine r_bin (v := (l.length : Int) + 1) k_100_79 (zb_add ⟨by omega, by omega⟩) ?_
    refine r_call (as := [vR (27), vI ((l.length : Int) + 1)]) (r := []) k_100_80 rfl rfl rfl ?_
    have F11a : zfr [] [18, 19, 20] σ (zsetA τ 18 (zup (τ.2 18) ((l.length : Int) : Int).toNat ((c : Int)))) := zfr_A hf (by decide)
    refine t_endsl (l := l ++ [(c : Int)]) hL hM ((congrFun (F11a.2 12 (by decide)) 1).trans h12) ((congrFun (F11a.2 12 (by decide)) 2).trans h13) (zrs_put hrs (by omega)) (zcol_a hc (by omega) (by omega)) (by omega) (by omega) (fun τ11 f11 => ?_)
    have F11 := zfr_2 F11a f11 (by decide) (by decide)
    have R11 : zrs τ11 (l ++ [(c : Int)]) := zrs_fr (zrs_put hrs (by omega)) f11 (by decide)
    have S11 : zbs τ11 Bn b := zbs_fr hbs (zfr_tr (zfr_A (S := []) (A := [18, 19]) zfr_rf (by decide)) f11 (S'' := []) (A'' := [18, 19]) (by decide) (by decide)) (by decide)
    refine r_if_ne k_100_83 (fun h83 => ?_) (fun h83 => ?_)
    · skip
      obtain ⟨n1, rfl⟩ : ∃ n1, n0 = n1 + 1 := ⟨n0 - 1, by omega⟩
      have e : zvisC law least (zvis C law least m) l (n1 + 1) c b = zvisC law least (zvis C law least m) l n1 (c + 1) b := by rw [zvisC, if_neg (by omega)]
      rw [e] at h1 h2
      exact ih _ (by omega) m n1 (c + 1) l b τ11 rfl (by omega) hBl (by omega) hc hbB hbN F11 (zrs_l R11) S11 (by rw [zrs_e R11]; omega) h1 h2
    · skip
      refine r_iinc (v := ((l.length : Int) - (Bn : Int)) + 1) (L' := [vR (27), vI ((Bn : Int)), vI ((N : Int)), vI (((b.length : Int) - (Bn : Int))), vI (((l.length : Int) - (Bn : Int)) + 1), vU]) k_100_86 rfl (zb_add ⟨by omega, by omega⟩) rfl ?_
      refine r_aload k_100_89 rfl ?_
      refine r_getR (q := 34) k_100_90 ⟨rfl, rfl⟩ ?_
      refine r_iload k_100_93 rfl ?_
      refine r_iload k_100_94 rfl ?_
      refine r_bin (v := ((l.length : Int) + 1)) k_100_96 (by rw [zb_add ⟨by omega, by omega⟩]; omega) ?_
      refine r_const k_100_97 ?_
      refine r_iast k_100_98 ⟨rfl, rfl⟩ ⟨by omega, by omega⟩ ?_
      refine r_const k_100_99 ?_
      refine r_istore (L' := [vR (27), vI ((Bn : Int)), vI ((N : Int)), vI (((b.length : Int) - (Bn : Int))), vI (((l.length : Int) - (Bn : Int)) + 1), vI (0)]) k_100_100 rfl ?_
      by_cases hlong : b.length < l.length + 1
      · exact lpK _ 0 _ rfl (by omega) hlong (by omega) (by omega) (zfr_A F11 (by decide)) (zrs_up R11 (by omega)) (by rw [zA_2, show ((l.length : Int) + 1).toNat = l.length + 1 by omega, zup_1]) (fun j hj => by omega)
      · skip
        refine r_iload k_100_102 rfl ?_
        refine r_iload k_100_104 rfl ?_
        refine r_ic_ge k_100_106 (fun h106 => ?_) (fun h106 => ?_)
        · skip
          refine r_iload k_100_137 rfl ?_
          refine r_iload k_100_139 rfl ?_
          refine r_ic_le k_100_140 (fun _ => ?_) (fun hz => absurd hz (by omega))
          refine r_iload k_100_148 rfl ?_
          refine r_istore (L' := [vR (27), vI ((Bn : Int)), vI ((N : Int)), vI (((b.length : Int) - (Bn : Int))), vI (((l.length : Int) - (Bn : Int)) + 1), vI (0)]) k_100_149 rfl ?_
          refine r_goto k_100_150 ?_
          refine r_cut (L' := [vR 27, vI Bn, vI N, vI (((b.length : Int) - (Bn : Int))), vI ((l.length : Int) - (Bn : Int) + 1), vU]) 5 rfl ?_
          have e : (zbest (l ++ [(c : Int)]) b) = b := if_neg (by omega)
          have h := fin (zsetA τ11 18 (zup (τ11.2 18) (((l.length : Int) + 1) : Int).toNat (-1))) (by omega) (by omega) (zfr_A F11 (by decide)) (zrs_up R11 (by omega)) (by rw [zA_2, show ((l.length : Int) + 1).toNat = l.length + 1 by omega, zup_1]) (by rw [e]; exact zbs_fr S11 (zfr_A (S := []) (A := [18]) zfr_rf (by decide)) (by decide)) (by rw [e]; exact hbB)
          rw [e] at h
          exact h
        · skip
          refine r_iload k_100_109 rfl ?_
          refine r_iload k_100_111 rfl ?_
          refine r_ic_le k_100_112 (fun _ => ?_) (fun hz => absurd hz (by omega))
          refine r_iload k_100_137 rfl ?_
          refine r_iload k_100_139 rfl ?_
          refine r_ic_le k_100_140 (fun _ => ?_) (fun hz => absurd hz (by omega))
          refine r_iload k_100_148 rfl ?_
          refine r_istore (L' := [vR (27), vI ((Bn : Int)), vI ((N : Int)), vI (((b.length : Int) - (Bn : Int))), vI (((l.length : Int) - (Bn : Int)) + 1), vI (0)]) k_100_149 rfl ?_
          refine r_goto k_100_150 ?_
          refine r_cut (L' := [vR 27, vI Bn, vI N, vI (((b.length : Int) - (Bn : Int))), vI ((l.length : Int) - (Bn : Int) + 1), vU]) 5 rfl ?_
          have e : (zbest (l ++ [(c : Int)]) b) = b := if_neg (by omega)
          have h := fin (zsetA τ11 18 (zup (τ11.2 18) (((l.length : Int) + 1) : Int).toNat (-1))) (by omega) (by omega) (zfr_A F11 (by decide)) (zrs_up R11 (by omega)) (by rw [zA_2, show ((l.length : Int) + 1).toNat = l.length + 1 by omega, zup_1]) (by rw [e]; exact zbs_fr S11 (zfr_A (S := []) (A := [18]) zfr_rf (by decide)) (by decide)) (by rw [e]; exact hbB)
          rw [e] at h
          exact h
  · skip
    refine r_iinc (v := (((l.length : Int) - (Bn : Int))) - 1) (L' := [vR (27), vI ((Bn : Int)), vI ((N : Int)), vI (((b.length : Int) - (Bn : Int))), vI ((((l.length : Int) - (Bn : Int))) - 1), vU]) k_100_67 rfl (by rw [zb_add ⟨by omega, by omega⟩]; omega) rfl ?_
    refine r_goto k_100_70 ?_
    obtain rfl : n0 = 0 := by omega
    exact h2 rfl _ (zfr_A hf (by decide)) (zrs_up hrs (by omega)) (zbs_fr hbs (zfr_A (S := []) (A := [18]) zfr_rf (by decide)) (by decide)) hbB hbN
