/-! how far: the reference, whole -/
theorem t_reach_e {d : Nat} {K : zM → Option zV → Prop} {Bn N : Nat} {υ : zM} {most : Int} (q : K υ (some (vI most))) : zG (d + 3) 100 K 0 zfx (26, [vR 27, vI Bn, vI N, vI most, vI (-1), vU], [], υ) := by
  refine r_iload k_100_26 rfl ?_
  refine r_if_lt k_100_28 (fun _ => ?_) (fun hz => absurd hz (by decide))
  refine r_iload k_100_153 rfl ?_
  refine r_iret k_100_154 ?_
  exact q
theorem zbest_s (l : List Int) : zbest l l = l := if_neg (Nat.lt_irrefl _)
theorem t_reaches {d : Nat} {σ : zM} {K : zM → Option zV → Prop} {C : Nat} {law least : Int} {Bn N : Nat} (hL : 0 ≤ law ∧ law ≤ 3) (hM : 1 ≤ least ∧ least ≤ 9) (hC : C ≤ 4) (h10 : σ.2 12 0 = (C : Int)) (h12 : σ.2 12 1 = law) (h13 : σ.2 12 2 = least) (hN : N ≤ 24) (hBN : Bn + N ≤ 70) {l : List Int} (hl : l.length = Bn) (hc : zcol l) (hrs : zrs σ l) (q1 : ∀ τ, zfr [] [18, 19, 20] σ τ → zbs τ Bn (zgo C law least N l) → K τ (some (vI (((zgo C law least N l).length : Int) - (Bn : Int))))) : zC (d + 4) 100 [vR 27, vI Bn, vI N] σ K := by
  refine zC_in rfl ?_
  show zG (d + 3) 100 K 0 zfx (0, [vR (27), vI ((Bn : Int)), vI ((N : Int)), vU, vU, vU], [], σ)
  refine r_aload k_100_0 rfl ?_
  refine r_iload k_100_1 rfl ?_
  refine r_call (as := [vR (27), vI ((Bn : Int))]) (r := []) k_100_2 rfl rfl rfl ?_
  refine t_faultsl (l := l) hL hM h12 h13 hrs hc (by omega) (by omega) (fun τ1 f1 => ?_)
  have F1 : zfr [] [18, 19, 20] σ τ1 := zfr_w f1 (by decide) (by decide)
  refine r_if_gt k_100_5 (fun h5 => ?_) (fun h5 => ?_)
  · skip
    refine r_const k_100_12 ?_
    refine r_iret k_100_13 ?_
    have e : zgo C law least N l = l := if_neg (by omega)
    rw [e] at q1
    exact zKe (q1 _ F1 (fun k hk => by omega)) (by omega)
  · skip
    refine r_iload k_100_8 rfl ?_
    refine r_if_ne k_100_9 (fun h9 => ?_) (fun h9 => ?_)
    · skip
      refine r_const k_100_14 ?_
      refine r_istore (L' := [vR (27), vI ((Bn : Int)), vI ((N : Int)), vI (0), vU, vU]) k_100_15 rfl ?_
      refine r_const k_100_16 ?_
      refine r_istore (L' := [vR (27), vI ((Bn : Int)), vI ((N : Int)), vI (0), vI (0), vU]) k_100_17 rfl ?_
      refine r_aload k_100_19 rfl ?_
      refine r_getR (q := 34) k_100_20 ⟨rfl, rfl⟩ ?_
      refine r_iload k_100_23 rfl ?_
      refine r_const k_100_24 ?_
      refine r_iast k_100_25 ⟨rfl, rfl⟩ ⟨by omega, by omega⟩ ?_
      obtain ⟨m, rfl⟩ : ∃ m, N = m + 1 := ⟨N - 1, by omega⟩
      have e : zgo C law least (m + 1) l = (zvisC law least (zvis C law least m) l C 0 l).1 := by unfold zgo; rw [if_pos (by omega), zvis, zbest_s]
      rw [e] at q1
      have e2 : (0 : Int) = ((l.length : Int) - (Bn : Int)) := by omega
      have hh := t_reach (d := d) (K := K) hL hM hC h10 h12 h13 hN hBN _ m C 0 l l (zsetA τ1 18 (zup (τ1.2 18) ((Bn : Int) : Int).toNat (-1))) rfl (by omega) (by omega) (by omega) hc (by omega) (by omega) (zfr_A F1 (by decide)) (zrs_up (zrs_fr hrs f1 (by decide)) (by omega)) (fun k hk => by omega) (by rw [zA_2, Int.toNat_natCast, hl, zup_1]; rfl) (fun ht υ gf gb gl => zKe (q1 υ gf gb) (by omega)) (fun ht υ gf gr gb gB gl => by
        have e3 : ((l.length : Int) - (Bn : Int) - 1) = (-1) := by omega
        rw [e3]
        exact t_reach_e (q1 υ gf gb))
      rw [← e2] at hh
      exact hh
    · skip
      refine r_const k_100_12 ?_
      refine r_iret k_100_13 ?_
      have e : zgo C law least N l = l := by
        obtain rfl : N = 0 := by omega
        unfold zgo zvis; rw [zbest_s]; split <;> rfl
      rw [e] at q1
      exact zKe (q1 _ F1 (fun k hk => by omega)) (by omega)
