/-! storm: the reference; the two alike -/
theorem y_rising {d : Nat} {σ : zM} {K : zM → Option zV → Prop} {C : Nat} {law least draw : Int} {l : List Int} {p : Nat → Int} (hg : zgd C law least draw l p) (hy : zYn (σ.2 12) C law least draw l p) {A N : Nat} {a n : Int} (ha : a = A) (hn : n = N) (hAN : A + N ≤ 192) (hN4 : N ≤ 4) (q1 : zris (fun j => σ.2 17 (A + j)) l.length N → K σ (some (vI 1))) (q2 : ¬ zris (fun j => σ.2 17 (A + j)) l.length N → K σ (some (vI 0))) : zC (d + 2 + 1) 121 [vR (27), vI (a), vI (n)] σ K := by
  have hl := hg.2.2.1
  have hb := hg.1
  have hC := hg.1.1
  have hC4 := hg.1.2.1
  refine zC_in rfl ?_
  have lpb : ∀ (m : Nat) (k : Nat), N - k = m → k ≤ N → K σ (some (vI 0)) → zG (d + 2) 121 K 0 zfx (5, [vR (27), vI (a), vI (n), vI (0), vI ((k : Int))], [], σ) := by
    intro m
    induction m using Nat.strongRecOn with
    | _ m ih =>
    intro k hm g1 hq
    refine r_iload k_121_5 rfl ?_
    refine r_iload k_121_7 rfl ?_
    refine r_ic_ge k_121_8 (fun h8 => ?_) (fun h8 => ?_)
    · skip
      refine r_iload k_121_71 rfl ?_
      refine r_zret k_121_72 (by omega) ?_
      exact hq
    · skip
      refine r_iload k_121_11 rfl ?_
      refine r_if_eq k_121_12 (fun _ => ?_) (fun hz => absurd hz (by decide))
      refine r_const k_121_63 ?_
      refine r_istore (L' := [vR (27), vI (a), vI (n), vI (0), vI ((k : Int))]) k_121_64 rfl ?_
      refine r_iinc (v := (k : Int) + 1) (L' := [vR (27), vI (a), vI (n), vI (0), vI ((k : Int) + 1)]) k_121_65 rfl (zb_add ⟨by omega, by omega⟩) rfl ?_
      refine r_goto k_121_68 ?_
      exact ih _ (by omega) (k + 1) rfl (by omega) hq
  have lp : ∀ (m : Nat) (k : Nat), N - k = m → k ≤ N → ((∀ j, j < k → 0 ≤ σ.2 17 (A + j) ∧ σ.2 17 (A + j) < (l.length : Int)) ∧ ∀ j, j + 1 < k → σ.2 17 (A + j) < σ.2 17 (A + (j + 1))) → zG (d + 2) 121 K 0 zfx (5, [vR (27), vI (a), vI (n), vI (1), vI ((k : Int))], [], σ) := by
    intro m
    induction m using Nat.strongRecOn with
    | _ m ih =>
    intro k hm g1 hr
    refine r_iload k_121_5 rfl ?_
    refine r_iload k_121_7 rfl ?_
    refine r_ic_ge k_121_8 (fun h8 => ?_) (fun h8 => ?_)
    · skip
      refine r_iload k_121_71 rfl ?_
      refine r_zret k_121_72 (by omega) ?_
      have ek : k = N := by omega
      rw [ek] at hr
      exact q1 ⟨fun j hj => hr.1 j hj, fun j hj => hr.2 j hj⟩
    · skip
      refine r_iload k_121_11 rfl ?_
      refine r_if_eq k_121_12 (fun hz => absurd hz (by decide)) (fun _ => ?_)
      refine r_aload k_121_15 rfl ?_
      refine r_aload k_121_16 rfl ?_
      refine r_getR (q := 33) k_121_17 ⟨rfl, rfl⟩ ?_
      refine r_iload k_121_20 rfl ?_
      refine r_iload k_121_21 rfl ?_
      refine r_bin (v := a + ((k : Int))) k_121_23 (zb_add ⟨by omega, by omega⟩) ?_
      refine r_iald (v := (σ.2 17 (A + k))) k_121_24 ⟨rfl, rfl⟩ ⟨by omega, by omega⟩ (by rw [show (a + ((k : Int)) : Int).toNat = A + k by omega]) ?_
      refine r_call (as := [vR (27), vI ((σ.2 17 (A + k)))]) (r := []) k_121_25 rfl rfl rfl ?_
      refine y_isPale hg hy (fun g25 e25 => ?_) (fun g25 => ?_)
      · skip
        refine r_if_eq k_121_28 (fun hz => absurd hz (by decide)) (fun _ => ?_)
        refine r_iload k_121_31 rfl ?_
        refine r_if_eq k_121_33 (fun h33 => ?_) (fun h33 => ?_)
        · skip
          refine r_const k_121_59 ?_
          refine r_goto k_121_60 ?_
          refine r_istore (L' := [vR (27), vI (a), vI (n), vI (1), vI ((k : Int))]) k_121_64 rfl ?_
          refine r_iinc (v := (k : Int) + 1) (L' := [vR (27), vI (a), vI (n), vI (1), vI ((k : Int) + 1)]) k_121_65 rfl (zb_add ⟨by omega, by omega⟩) rfl ?_
          refine r_goto k_121_68 ?_
          refine ih _ (by omega) (k + 1) rfl (by omega) ⟨fun j hj => ?_, fun j hj => ?_⟩
          · by_cases e : j = k
            · subst e; omega
            · exact hr.1 j (by omega)
          · by_cases e : j + 1 = k
            · have : σ.2 17 (A + (k - 1)) < σ.2 17 (A + k) := by omega
              rw [← e] at this
              exact this
            · exact hr.2 j (by omega)
        · skip
          refine r_aload k_121_36 rfl ?_
          refine r_getR (q := 33) k_121_37 ⟨rfl, rfl⟩ ?_
          refine r_iload k_121_40 rfl ?_
          refine r_iload k_121_41 rfl ?_
          refine r_bin (v := a + ((k : Int))) k_121_43 (zb_add ⟨by omega, by omega⟩) ?_
          refine r_iald (v := (σ.2 17 (A + k))) k_121_44 ⟨rfl, rfl⟩ ⟨by omega, by omega⟩ (by rw [show (a + ((k : Int)) : Int).toNat = A + k by omega]) ?_
          refine r_aload k_121_45 rfl ?_
          refine r_getR (q := 33) k_121_46 ⟨rfl, rfl⟩ ?_
          refine r_iload k_121_49 rfl ?_
          refine r_iload k_121_50 rfl ?_
          refine r_bin (v := a + ((k : Int))) k_121_52 (zb_add ⟨by omega, by omega⟩) ?_
          refine r_const k_121_53 ?_
          refine r_bin (v := a + ((k : Int)) - 1) k_121_54 (zb_sub ⟨by omega, by omega⟩) ?_
          refine r_iald (v := (σ.2 17 (A + (k - 1)))) k_121_55 ⟨rfl, rfl⟩ ⟨by omega, by omega⟩ (by rw [show (a + ((k : Int)) - 1 : Int).toNat = A + (k - 1) by omega]) ?_
          refine r_ic_le k_121_56 (fun h56 => ?_) (fun h56 => ?_)
          · skip
            refine r_const k_121_63 ?_
            refine r_istore (L' := [vR (27), vI (a), vI (n), vI (0), vI ((k : Int))]) k_121_64 rfl ?_
            refine r_iinc (v := (k : Int) + 1) (L' := [vR (27), vI (a), vI (n), vI (0), vI ((k : Int) + 1)]) k_121_65 rfl (zb_add ⟨by omega, by omega⟩) rfl ?_
            refine r_goto k_121_68 ?_
            refine lpb _ (k + 1) rfl (by omega) (q2 (fun q => ?_))
            have h1 := q.1 k (by omega)
            dsimp only at h1
            by_cases k0 : k = 0
            · omega
            · have h3 := q.2 (k - 1) (by omega)
              dsimp only at h3
              rw [show k - 1 + 1 = k by omega] at h3
              omega
          · skip
            refine r_const k_121_59 ?_
            refine r_goto k_121_60 ?_
            refine r_istore (L' := [vR (27), vI (a), vI (n), vI (1), vI ((k : Int))]) k_121_64 rfl ?_
            refine r_iinc (v := (k : Int) + 1) (L' := [vR (27), vI (a), vI (n), vI (1), vI ((k : Int) + 1)]) k_121_65 rfl (zb_add ⟨by omega, by omega⟩) rfl ?_
            refine r_goto k_121_68 ?_
            refine ih _ (by omega) (k + 1) rfl (by omega) ⟨fun j hj => ?_, fun j hj => ?_⟩
            · by_cases e : j = k
              · subst e; omega
              · exact hr.1 j (by omega)
            · by_cases e : j + 1 = k
              · have : σ.2 17 (A + (k - 1)) < σ.2 17 (A + k) := by omega
                rw [← e] at this
                exact this
              · exact hr.2 j (by omega)
      · skip
        refine r_if_eq k_121_28 (fun _ => ?_) (fun hz => absurd hz (by decide))
        refine r_const k_121_63 ?_
        refine r_istore (L' := [vR (27), vI (a), vI (n), vI (0), vI ((k : Int))]) k_121_64 rfl ?_
        refine r_iinc (v := (k : Int) + 1) (L' := [vR (27), vI (a), vI (n), vI (0), vI ((k : Int) + 1)]) k_121_65 rfl (zb_add ⟨by omega, by omega⟩) rfl ?_
        refine r_goto k_121_68 ?_
        refine lpb _ (k + 1) rfl (by omega) (q2 (fun q => ?_))
        have h1 := q.1 k (by omega)
        dsimp only at h1
        by_cases k0 : k = 0
        · omega
        · have h3 := q.2 (k - 1) (by omega)
          dsimp only at h3
          rw [show k - 1 + 1 = k by omega] at h3
          omega
  show zG (d + 2) 121 K 0 zfx (0, [vR (27), vI (a), vI (n), vU, vU], [], σ)
  refine r_const k_121_0 ?_
  refine r_istore (L' := [vR (27), vI (a), vI (n), vI (1), vU]) k_121_1 rfl ?_
  refine r_const k_121_2 ?_
  refine r_istore (L' := [vR (27), vI (a), vI (n), vI (1), vI (0)]) k_121_3 rfl ?_
  exact lp _ 0 rfl (by omega) ⟨fun j hj => absurd hj (Nat.not_lt_zero _), fun j hj => absurd hj (Nat.not_lt_zero _)⟩
theorem y_storm {d : Nat} {σ : zM} {K : zM → Option zV → Prop} {C : Nat} {law least draw : Int} {l : List Int} {p : Nat → Int} (hg : zgd C law least draw l p) (hy : zYn (σ.2 12) C law least draw l p) (hJ : ∀ s, s < 4 → -1 ≤ σ.2 15 s ∧ σ.2 15 s ≤ 48) {sh ln f n i : Int} (hf1 : -2147483648 ≤ f) (hf2 : f < 2147483648) (q1 : ¬ ((0 ≤ sh ∧ sh < 4) ∧ (0 ≤ ln ∧ ln ≤ 2) ∧ (1 ≤ n ∧ n ≤ 4) ∧ -1 ≤ i ∧ i < n) → K σ (some (vI (-1)))) (q2 : ∀ s : Nat, sh = s → s < 4 → 0 ≤ ln → ln ≤ 2 → 1 ≤ n → n ≤ 4 → -1 ≤ i → i < n → (zref (σ.2 16 s) (σ.2 15 s) ln f n) ≠ 0 → K σ (some (vI (zref (σ.2 16 s) (σ.2 15 s) ln f n)))) (q3 : ∀ s F N : Nat, sh = s → s < 4 → 0 ≤ ln → ln ≤ 2 → 1 ≤ n → n ≤ 4 → -1 ≤ i → i < n → (zref (σ.2 16 s) (σ.2 15 s) ln f n) = 0 → f = F → n = N → ¬ zris (fun j => σ.2 17 (48 * s + F + j)) l.length N → ∀ τ, zfr [] [18, 19] σ τ → K τ (some (vI (-2)))) (q4 : ∀ (s F N : Nat) (P : Nat → Nat), sh = s → s < 4 → 0 ≤ ln → ln ≤ 2 → 1 ≤ n → n ≤ 4 → -1 ≤ i → i < n → (zref (σ.2 16 s) (σ.2 15 s) ln f n) = 0 → f = F → n = N → (∀ j, j < N → (fun j => σ.2 17 (48 * s + F + j)) j = (P j : Int)) → (∀ a b, a < b → b < N → P a < P b) → (∀ j, j < N → P j < l.length) → ∀ τ, zfr [] [18, 19] σ τ → K τ (some (vI (zwans i P 0 (-4) (zsa C law least P N l))))) : zC (d + 4 + 1) 122 [vR (27), vI (sh), vI (ln), vI (f), vI (n), vI (i)] σ K := by
  have hl := hg.2.2.1
  have hb := hg.1
  have hC := hg.1.1
  have hC4 := hg.1.2.1
  refine zC_in rfl ?_
  have lpd : ∀ (m : Nat) (A N w u : Nat) (P : Nat → Nat) (at0 why fs : Int) (t : Nat) (τ : zM), t = m → t ≤ N → w < C ^ N → n = N → 1 ≤ N → N ≤ 4 → at0 = (A : Int) → A + N ≤ 192 → (∀ j, j < N → σ.2 17 (A + j) = (P j : Int)) → (∀ a b, a < b → b < N → P a < P b) → (∀ j, j < N → P j < l.length) → zfr [] [18, 19] σ τ → (∀ x, x < l.length → (∀ q, q < N → x ≠ P q) → τ.2 18 x = zlf l x) → (∀ i2, t ≤ i2 → i2 < N → τ.2 18 (P i2) = (((w / C ^ (N - 1 - i2)) % C : Nat) : Int)) → (∀ υ, zfr [] [18, 19] σ υ → zrs υ (zwr C P N 0 w l) → zG (d + 4) 122 K 0 zfx (190, [vR (27), vI (sh), vI (ln), vI (f), vI (n), vI (i), vI (why), vI (at0), vI (((C ^ N : Nat) : Int)), vI ((l.length : Int)), vI ((u : Int)), vI (fs), vI ((w : Int)), vU, vU], [], υ)) → zG (d + 4) 122 K 0 zfx (144, [vR (27), vI (sh), vI (ln), vI (f), vI (n), vI (i), vI (why), vI (at0), vI (((C ^ N : Nat) : Int)), vI ((l.length : Int)), vI ((u : Int)), vI (fs), vI ((w : Int)), vI (((w / C ^ (N - t) : Nat) : Int)), vI (((t : Int) - 1))], [], τ) := by
    intro m
    induction m using Nat.strongRecOn with
    | _ m ih =>
    intro A N w u P at0 why fs t τ hm ht hw hN n1 n4 hat hAN hP1 hP2 hP3 hf hot hdg hq
    have hlt : w / C ^ (N - t) ≤ 256 := Nat.le_trans (Nat.div_le_self _ _) (Nat.le_trans (Nat.le_of_lt hw) (zpw4 (by omega) n4))
    obtain ⟨v, hv⟩ : ∃ v, v = w / C ^ (N - t) := ⟨_, rfl⟩
    rw [← hv] at hlt ⊢
    refine r_iload k_122_144 rfl ?_
    refine r_if_lt k_122_146 (fun h146 => ?_) (fun h146 => ?_)
    · skip
      have t0 : t = 0 := by omega
      subst t0
      refine r_cut (L' := [vR (27), vI (sh), vI (ln), vI (f), vI (n), vI (i), vI (why), vI (at0), vI (((C ^ N : Nat) : Int)), vI ((l.length : Int)), vI ((u : Int)), vI (fs), vI ((w : Int)), vU, vU]) 13 rfl ?_
      refine hq _ hf (fun x hx => ?_)
      have hsim := zwr_sim (C := C) (pos := P) (n := N) N 0 w l (by omega)
      rw [hsim.1] at hx
      by_cases hxq : ∃ q, q < N ∧ x = P q
      · obtain ⟨q, hq1, rfl⟩ := hxq
        rw [zwr_at hP2 N 0 w l (by omega) hP3 hw q (Nat.zero_le _) hq1]; exact hdg q (Nat.zero_le _) hq1
      · rw [hsim.2 x hx (fun q _ h2 e => hxq ⟨q, h2, e⟩)]
        exact hot x hx (fun q h2 e => hxq ⟨q, h2, e⟩)
    · skip
      refine r_aload k_122_149 rfl ?_
      refine r_getR (q := 34) k_122_150 ⟨rfl, rfl⟩ ?_
      refine r_aload k_122_153 rfl ?_
      refine r_getR (q := 33) k_122_154 ⟨rfl, rfl⟩ ?_
      refine r_iload k_122_157 rfl ?_
      refine r_iload k_122_159 rfl ?_
      refine r_bin (v := at0 + (((t : Int) - 1))) k_122_161 (zb_add ⟨by omega, by omega⟩) ?_
      refine r_iald (v := ((P (t - 1) : Nat) : Int)) k_122_162 ⟨rfl, rfl⟩ ⟨by omega, by omega⟩ (by rw [hf.2 17 (by decide), show (at0 + (((t : Int) - 1)) : Int).toNat = A + (t - 1) by omega]; exact hP1 _ (by omega)) ?_
      refine r_iload k_122_163 rfl ?_
      refine r_aload k_122_165 rfl ?_
      refine r_getR (q := 28) k_122_166 ⟨rfl, rfl⟩ ?_
      refine r_const k_122_169 ?_
      refine r_iald (v := (C : Int)) k_122_170 ⟨rfl, rfl⟩ ⟨by decide, by decide⟩ (by rw [hf.2 12 (by decide)]; exact hy.1) ?_
      refine r_rem (v := ((v % C : Nat) : Int)) k_122_171 (by omega) (by rw [zd_rem (by omega) ⟨by omega, by omega⟩ (by omega) ⟨by omega, by omega⟩]; exact (Int.natCast_emod _ _).symm) ?_
      refine r_iast k_122_172 ⟨rfl, rfl⟩ ⟨by omega, by have := hP3 (t - 1) (by omega); omega⟩ ?_
      refine r_iload k_122_173 rfl ?_
      refine r_aload k_122_175 rfl ?_
      refine r_getR (q := 28) k_122_176 ⟨rfl, rfl⟩ ?_
      refine r_const k_122_179 ?_
      refine r_iald (v := (C : Int)) k_122_180 ⟨rfl, rfl⟩ ⟨by decide, by decide⟩ (by rw [zA_n (by decide), hf.2 12 (by decide)]; exact hy.1) ?_
      refine r_div (v := ((v / C : Nat) : Int)) k_122_181 (by omega) (by rw [zd_div (by omega) ⟨by omega, by omega⟩ (by omega) ⟨by omega, by omega⟩]; exact (Int.natCast_ediv _ _).symm) ?_
      refine r_istore (L' := [vR (27), vI (sh), vI (ln), vI (f), vI (n), vI (i), vI (why), vI (at0), vI (((C ^ N : Nat) : Int)), vI ((l.length : Int)), vI ((u : Int)), vI (fs), vI ((w : Int)), vI (((v / C : Nat) : Int)), vI (((t : Int) - 1))]) k_122_182 rfl ?_
      refine r_iinc (v := (((t : Int) - 1)) - 1) (L' := [vR (27), vI (sh), vI (ln), vI (f), vI (n), vI (i), vI (why), vI (at0), vI (((C ^ N : Nat) : Int)), vI ((l.length : Int)), vI ((u : Int)), vI (fs), vI ((w : Int)), vI (((v / C : Nat) : Int)), vI ((((t : Int) - 1)) - 1)]) k_122_184 rfl (by rw [zb_add ⟨by omega, by omega⟩]; omega) rfl ?_
      refine r_goto k_122_187 ?_
      obtain ⟨t2, rfl⟩ : ∃ t2, t = t2 + 1 := ⟨t - 1, by omega⟩
      have eP : (((P (t2 + 1 - 1) : Nat) : Int)).toNat = P t2 := Int.toNat_natCast _
      rw [eP]
      have e1 : (((v / C : Nat)) : Int) = ((w / C ^ (N - t2) : Nat) : Int) := by rw [hv, Nat.div_div_eq_div_mul, ← Nat.pow_succ, show (N - (t2 + 1)).succ = N - t2 by omega]
      rw [e1]
      have e2 : (((t2 + 1 : Nat) : Int) - 1 - 1) = ((t2 : Int) - 1) := by omega
      rw [e2]
      refine ih t2 (by omega) A N w u P at0 why fs t2 _ rfl (by omega) hw hN n1 n4 hat hAN hP1 hP2 hP3 (zfr_A hf (by decide)) (fun x hx hxq => ?_) (fun i2 h1 h2 => ?_) hq
      · rw [zA_2, zup_n (hxq t2 (by omega))]; exact hot x hx hxq
      · rw [zA_2]
        by_cases e : i2 = t2
        · subst e; rw [zup_1, hv, show N - (i2 + 1) = N - 1 - i2 by omega]
        · have hne : P i2 ≠ P t2 := by have := hP2 t2 i2 (by omega) h2; omega
          rw [zup_n hne]; exact hdg i2 (by omega) h2
  have lpw : ∀ (m : Nat) (A N w u : Nat) (P : Nat → Nat) (at0 why fs : Int) (τ : zM), w + m = C ^ N → u ≤ w → n = N → 1 ≤ N → N ≤ 4 → at0 = (A : Int) → A + N ≤ 192 → (∀ j, j < N → σ.2 17 (A + j) = (P j : Int)) → (∀ a b, a < b → b < N → P a < P b) → (∀ j, j < N → P j < l.length) → -1 ≤ i → i < n → (u = 0 → fs = -4) → zfr [] [18, 19] σ τ → (∀ x, x < l.length → (∀ q, q < N → x ≠ P q) → τ.2 18 x = zlf l x) → (∀ υ, zfr [] [18, 19] σ υ → K υ (some (vI (zwans i P u fs (zwy law least (fun w => zwr C P N 0 w l) m w))))) → zG (d + 4) 122 K 0 zfx (127, [vR (27), vI (sh), vI (ln), vI (f), vI (n), vI (i), vI (why), vI (at0), vI (((C ^ N : Nat) : Int)), vI ((l.length : Int)), vI ((u : Int)), vI (fs), vI ((w : Int)), vU, vU], [], τ) := by
    intro m
    induction m using Nat.strongRecOn with
    | _ m ih =>
    intro A N w u P at0 why fs τ hm huw hN n1 n4 hat hAN hP1 hP2 hP3 hi1 hi2 hfs hf hot hq
    have hCN := zpw4 (C := C) (k := N) (by omega) n4
    refine r_iload k_122_127 rfl ?_
    refine r_iload k_122_129 rfl ?_
    refine r_ic_ge k_122_131 (fun h131 => ?_) (fun h131 => ?_)
    · skip
      refine r_iload k_122_240 rfl ?_
      refine r_if_ge k_122_242 (fun h242 => ?_) (fun h242 => ?_)
      · skip
        refine r_iload k_122_250 rfl ?_
        refine r_iret k_122_252 ?_
        have m0 : m = 0 := by omega
        subst m0
        refine zKe (hq _ hf) ?_
        unfold zwans
        rw [if_neg (by omega)]
        by_cases u0 : u = 0
        · rw [if_neg (by omega)]; exact (hfs u0).symm
        · rw [if_pos u0]
      · skip
        refine r_iload k_122_245 rfl ?_
        refine r_goto k_122_247 ?_
        refine r_iret k_122_252 ?_
        have m0 : m = 0 := by omega
        subst m0
        exact zKe (hq _ hf) (by unfold zwans; rw [if_pos (by omega)]; show (u : Int) + 0 = _; omega)
    · skip
      refine r_iload k_122_134 rfl ?_
      refine r_istore (L' := [vR (27), vI (sh), vI (ln), vI (f), vI (n), vI (i), vI (why), vI (at0), vI (((C ^ N : Nat) : Int)), vI ((l.length : Int)), vI ((u : Int)), vI (fs), vI ((w : Int)), vI ((w : Int)), vU]) k_122_136 rfl ?_
      refine r_iload k_122_138 rfl ?_
      refine r_const k_122_140 ?_
      refine r_bin (v := n - 1) k_122_141 (zb_sub ⟨by omega, by omega⟩) ?_
      refine r_istore (L' := [vR (27), vI (sh), vI (ln), vI (f), vI (n), vI (i), vI (why), vI (at0), vI (((C ^ N : Nat) : Int)), vI ((l.length : Int)), vI ((u : Int)), vI (fs), vI ((w : Int)), vI ((w : Int)), vI (n - 1)]) k_122_142 rfl ?_
      have e0 : n - 1 = ((N : Int) - 1) := by omega
      have hw : w < C ^ N := by omega
      have ew : ((w : Nat) : Int) = ((w / C ^ (N - N) : Nat) : Int) := by rw [Nat.sub_self, Nat.pow_zero, Nat.div_one]
      have hh := lpd N A N w u P at0 why fs N τ rfl (Nat.le_refl _) hw hN n1 n4 hat hAN hP1 hP2 hP3 hf hot (fun i2 h1 h2 => absurd h1 (by omega)) (fun υ fu zu => ?_)
      · rw [e0]; rw [← ew] at hh; exact hh
      refine r_aload k_122_190 rfl ?_
      refine r_iload k_122_191 rfl ?_
      refine r_call (as := [vR (27), vI ((l.length : Int))]) (r := []) k_122_193 rfl rfl rfl ?_
      have hsl := (zwr_sim (C := C) (pos := P) (n := N) N 0 w l (by omega)).1
      have hcw : zcol (zwr C P N 0 w l) := fun x hx => by
        obtain ⟨j, hj, e⟩ := zmem_lf hx
        rw [hsl] at hj
        by_cases hxq : ∃ q, q < N ∧ j = P q
        · obtain ⟨q, hq1, rfl⟩ := hxq
          rw [zwr_at hP2 N 0 w l (by omega) hP3 hw q (Nat.zero_le _) hq1] at e
          have := Nat.mod_lt (w / C ^ (N - 1 - q)) (show 0 < C by omega)
          omega
        · rw [(zwr_sim (C := C) (pos := P) (n := N) N 0 w l (by omega)).2 j hj (fun q _ h2 e => hxq ⟨q, h2, e⟩)] at e
          rw [← e]; exact zgd_c hg _ (zlf_mem hj)
      have hYu : zYn (υ.2 12) C law least draw l p := by rw [fu.2 12 (by decide)]; exact hy
      refine t_faultsl (l := (zwr C P N 0 w l)) ⟨hg.1.2.2.1, hg.1.2.2.2.1⟩ hg.1.2.2.2.2 hYu.2.1 hYu.2.2.1 zu hcw (by omega) (by omega) (fun τ9 f9 => ?_)
      have F9 : zfr [] [18, 19] σ τ9 := zfr_2 fu f9 (by decide) (by decide)
      have Z9 : zrs τ9 (zwr C P N 0 w l) := zrs_fr zu f9 (by decide)
      refine r_if_ne k_122_196 (fun h196 => ?_) (fun h196 => ?_)
      · skip
        refine r_iinc (v := (w : Int) + 1) (L' := [vR (27), vI (sh), vI (ln), vI (f), vI (n), vI (i), vI (why), vI (at0), vI (((C ^ N : Nat) : Int)), vI ((l.length : Int)), vI ((u : Int)), vI (fs), vI ((w : Int) + 1), vU, vU]) k_122_234 rfl (zb_add ⟨by omega, by omega⟩) rfl ?_
        refine r_goto k_122_237 ?_
        obtain ⟨m2, rfl⟩ : ∃ m2, m = m2 + 1 := ⟨m - 1, by omega⟩
        have hot2 : (∀ x, x < l.length → (∀ q, q < N → x ≠ P q) → τ9.2 18 x = zlf l x) := fun x hx hxq => by rw [Z9 x (by omega), (zwr_sim (C := C) (pos := P) (n := N) N 0 w l (by omega)).2 x hx (fun q _ h2 => hxq q h2)]
        have eZ : zwy law least (fun w => zwr C P N 0 w l) (m2 + 1) w = zwy law least (fun w => zwr C P N 0 w l) m2 (w + 1) := by rw [zwy, if_neg (by show zfau law least (zwr C P N 0 w l) ≠ 0; omega)]; rfl
        rw [eZ] at hq
        exact ih m2 (by omega) A N (w + 1) u P at0 why fs τ9 (by omega) (by omega) hN n1 n4 hat hAN hP1 hP2 hP3 hi1 hi2 hfs F9 hot2 hq
      · skip
        refine r_iload k_122_199 rfl ?_
        refine r_if_ne k_122_201 (fun h201 => ?_) (fun h201 => ?_)
        · skip
          refine r_iload k_122_227 rfl ?_
          refine r_istore (L' := [vR (27), vI (sh), vI (ln), vI (f), vI (n), vI (i), vI (why), vI (at0), vI (((C ^ N : Nat) : Int)), vI ((l.length : Int)), vI ((u : Int)), vI (fs), vI ((w : Int)), vU, vU]) k_122_229 rfl ?_
          refine r_iinc (v := (u : Int) + 1) (L' := [vR (27), vI (sh), vI (ln), vI (f), vI (n), vI (i), vI (why), vI (at0), vI (((C ^ N : Nat) : Int)), vI ((l.length : Int)), vI ((u : Int) + 1), vI (fs), vI ((w : Int)), vU, vU]) k_122_231 rfl (zb_add ⟨by omega, by omega⟩) rfl ?_
          refine r_iinc (v := (w : Int) + 1) (L' := [vR (27), vI (sh), vI (ln), vI (f), vI (n), vI (i), vI (why), vI (at0), vI (((C ^ N : Nat) : Int)), vI ((l.length : Int)), vI ((u : Int) + 1), vI (fs), vI ((w : Int) + 1), vU, vU]) k_122_234 rfl (zb_add ⟨by omega, by omega⟩) rfl ?_
          refine r_goto k_122_237 ?_
          obtain ⟨m2, rfl⟩ : ∃ m2, m = m2 + 1 := ⟨m - 1, by omega⟩
          have hot2 : (∀ x, x < l.length → (∀ q, q < N → x ≠ P q) → τ9.2 18 x = zlf l x) := fun x hx hxq => by rw [Z9 x (by omega), (zwr_sim (C := C) (pos := P) (n := N) N 0 w l (by omega)).2 x hx (fun q _ h2 => hxq q h2)]
          have eZ : zwy law least (fun w => zwr C P N 0 w l) (m2 + 1) w = zwr C P N 0 w l :: zwy law least (fun w => zwr C P N 0 w l) m2 (w + 1) := by rw [zwy, if_pos (by show zfau law least (zwr C P N 0 w l) = 0; omega)]; rfl
          rw [eZ] at hq
          have eA : (zwans i P (u + 1) fs (zwy law least (fun w => zwr C P N 0 w l) m2 (w + 1))) = (zwans i P u fs (zwr C P N 0 w l :: zwy law least (fun w => zwr C P N 0 w l) m2 (w + 1))) := by unfold zwans; by_cases ii : i < 0; rw [if_pos ii, if_pos ii, List.length_cons]; omega; rw [if_neg ii, if_neg ii, if_pos (by omega), if_pos (by omega)]
          exact ih m2 (by omega) A N (w + 1) (u + 1) P at0 why fs τ9 (by omega) (by omega) hN n1 n4 hat hAN hP1 hP2 hP3 hi1 hi2 (fun e => absurd e (by omega)) F9 hot2 (fun υ fv => zKe (hq υ fv) eA.symm)
        · skip
          refine r_iload k_122_204 rfl ?_
          refine r_if_lt k_122_206 (fun h206 => ?_) (fun h206 => ?_)
          · skip
            refine r_iload k_122_227 rfl ?_
            refine r_istore (L' := [vR (27), vI (sh), vI (ln), vI (f), vI (n), vI (i), vI (why), vI (at0), vI (((C ^ N : Nat) : Int)), vI ((l.length : Int)), vI ((u : Int)), vI (fs), vI ((w : Int)), vU, vU]) k_122_229 rfl ?_
            refine r_iinc (v := (u : Int) + 1) (L' := [vR (27), vI (sh), vI (ln), vI (f), vI (n), vI (i), vI (why), vI (at0), vI (((C ^ N : Nat) : Int)), vI ((l.length : Int)), vI ((u : Int) + 1), vI (fs), vI ((w : Int)), vU, vU]) k_122_231 rfl (zb_add ⟨by omega, by omega⟩) rfl ?_
            refine r_iinc (v := (w : Int) + 1) (L' := [vR (27), vI (sh), vI (ln), vI (f), vI (n), vI (i), vI (why), vI (at0), vI (((C ^ N : Nat) : Int)), vI ((l.length : Int)), vI ((u : Int) + 1), vI (fs), vI ((w : Int) + 1), vU, vU]) k_122_234 rfl (zb_add ⟨by omega, by omega⟩) rfl ?_
            refine r_goto k_122_237 ?_
            obtain ⟨m2, rfl⟩ : ∃ m2, m = m2 + 1 := ⟨m - 1, by omega⟩
            have hot2 : (∀ x, x < l.length → (∀ q, q < N → x ≠ P q) → τ9.2 18 x = zlf l x) := fun x hx hxq => by rw [Z9 x (by omega), (zwr_sim (C := C) (pos := P) (n := N) N 0 w l (by omega)).2 x hx (fun q _ h2 => hxq q h2)]
            have eZ : zwy law least (fun w => zwr C P N 0 w l) (m2 + 1) w = zwr C P N 0 w l :: zwy law least (fun w => zwr C P N 0 w l) m2 (w + 1) := by rw [zwy, if_pos (by show zfau law least (zwr C P N 0 w l) = 0; omega)]; rfl
            rw [eZ] at hq
            have eA : (zwans i P (u + 1) fs (zwy law least (fun w => zwr C P N 0 w l) m2 (w + 1))) = (zwans i P u fs (zwr C P N 0 w l :: zwy law least (fun w => zwr C P N 0 w l) m2 (w + 1))) := by unfold zwans; rw [if_pos (by omega), if_pos (by omega), List.length_cons]; omega
            exact ih m2 (by omega) A N (w + 1) (u + 1) P at0 why fs τ9 (by omega) (by omega) hN n1 n4 hat hAN hP1 hP2 hP3 hi1 hi2 (fun e => absurd e (by omega)) F9 hot2 (fun υ fv => zKe (hq υ fv) eA.symm)
          · skip
            refine r_aload k_122_209 rfl ?_
            refine r_getR (q := 34) k_122_210 ⟨rfl, rfl⟩ ?_
            refine r_aload k_122_213 rfl ?_
            refine r_getR (q := 33) k_122_214 ⟨rfl, rfl⟩ ?_
            refine r_iload k_122_217 rfl ?_
            refine r_iload k_122_219 rfl ?_
            refine r_bin (v := at0 + i) k_122_221 (zb_add ⟨by omega, by omega⟩) ?_
            refine r_iald (v := ((P i.toNat : Nat) : Int)) k_122_222 ⟨rfl, rfl⟩ ⟨by omega, by omega⟩ (by rw [F9.2 17 (by decide), show (at0 + i : Int).toNat = A + i.toNat by omega]; exact hP1 _ (by omega)) ?_
            refine r_iald (v := (zlf (zwr C P N 0 w l) (P i.toNat))) k_122_223 ⟨rfl, rfl⟩ ⟨by omega, by have := hP3 i.toNat (by omega); omega⟩ (by rw [Int.toNat_natCast]; exact Z9 _ (by have := hP3 i.toNat (by omega); omega)) ?_
            refine r_goto k_122_224 ?_
            refine r_istore (L' := [vR (27), vI (sh), vI (ln), vI (f), vI (n), vI (i), vI (why), vI (at0), vI (((C ^ N : Nat) : Int)), vI ((l.length : Int)), vI ((u : Int)), vI ((zlf (zwr C P N 0 w l) (P i.toNat))), vI ((w : Int)), vU, vU]) k_122_229 rfl ?_
            refine r_iinc (v := (u : Int) + 1) (L' := [vR (27), vI (sh), vI (ln), vI (f), vI (n), vI (i), vI (why), vI (at0), vI (((C ^ N : Nat) : Int)), vI ((l.length : Int)), vI ((u : Int) + 1), vI ((zlf (zwr C P N 0 w l) (P i.toNat))), vI ((w : Int)), vU, vU]) k_122_231 rfl (zb_add ⟨by omega, by omega⟩) rfl ?_
            refine r_iinc (v := (w : Int) + 1) (L' := [vR (27), vI (sh), vI (ln), vI (f), vI (n), vI (i), vI (why), vI (at0), vI (((C ^ N : Nat) : Int)), vI ((l.length : Int)), vI ((u : Int) + 1), vI ((zlf (zwr C P N 0 w l) (P i.toNat))), vI ((w : Int) + 1), vU, vU]) k_122_234 rfl (zb_add ⟨by omega, by omega⟩) rfl ?_
            refine r_goto k_122_237 ?_
            obtain ⟨m2, rfl⟩ : ∃ m2, m = m2 + 1 := ⟨m - 1, by omega⟩
            have hot2 : (∀ x, x < l.length → (∀ q, q < N → x ≠ P q) → τ9.2 18 x = zlf l x) := fun x hx hxq => by rw [Z9 x (by omega), (zwr_sim (C := C) (pos := P) (n := N) N 0 w l (by omega)).2 x hx (fun q _ h2 => hxq q h2)]
            have eZ : zwy law least (fun w => zwr C P N 0 w l) (m2 + 1) w = zwr C P N 0 w l :: zwy law least (fun w => zwr C P N 0 w l) m2 (w + 1) := by rw [zwy, if_pos (by show zfau law least (zwr C P N 0 w l) = 0; omega)]; rfl
            rw [eZ] at hq
            have eA : (zwans i P (u + 1) ((zlf (zwr C P N 0 w l) (P i.toNat))) (zwy law least (fun w => zwr C P N 0 w l) m2 (w + 1))) = (zwans i P u fs (zwr C P N 0 w l :: zwy law least (fun w => zwr C P N 0 w l) m2 (w + 1))) := by have ii : ¬ i < 0 := (by omega); unfold zwans; rw [if_neg ii, if_neg ii, if_pos (by omega), if_neg (by omega)]
            exact ih m2 (by omega) A N (w + 1) (u + 1) P at0 why ((zlf (zwr C P N 0 w l) (P i.toNat))) τ9 (by omega) (by omega) hN n1 n4 hat hAN hP1 hP2 hP3 hi1 hi2 (fun e => absurd e (by omega)) F9 hot2 (fun υ fv => zKe (hq υ fv) eA.symm)
  have lpp : ∀ (m : Nat) (N k : Nat) (at0 why : Int), N - k = m → k ≤ N → n = N → N ≤ 4 → zG (d + 4) 122 K 0 zfx (111, [vR (27), vI (sh), vI (ln), vI (f), vI (n), vI (i), vI (why), vI (at0), vI (((C ^ N : Nat) : Int)), vU, vU, vU, vU, vU, vU], [], σ) → zG (d + 4) 122 K 0 zfx (87, [vR (27), vI (sh), vI (ln), vI (f), vI (n), vI (i), vI (why), vI (at0), vI (((C ^ k : Nat) : Int)), vI ((k : Int)), vU, vU, vU, vU, vU], [], σ) := by
    intro m
    induction m using Nat.strongRecOn with
    | _ m ih =>
    intro N k at0 why hm g1 hN n4 hq
    have hck := zpw4 (C := C) (k := k) (by omega) (by omega)
    refine r_iload k_122_87 rfl ?_
    refine r_iload k_122_89 rfl ?_
    refine r_ic_ge k_122_91 (fun h91 => ?_) (fun h91 => ?_)
    · skip
      have ek : k = N := by omega
      subst ek
      refine r_cut (L' := [vR (27), vI (sh), vI (ln), vI (f), vI (n), vI (i), vI (why), vI (at0), vI (((C ^ k : Nat) : Int)), vU, vU, vU, vU, vU, vU]) 9 rfl ?_
      exact hq
    · skip
      refine r_iload k_122_94 rfl ?_
      refine r_aload k_122_96 rfl ?_
      refine r_getR (q := 28) k_122_97 ⟨rfl, rfl⟩ ?_
      refine r_const k_122_100 ?_
      refine r_iald (v := (C : Int)) k_122_101 ⟨rfl, rfl⟩ ⟨by decide, by decide⟩ hy.1 ?_
      refine r_bin (v := ((C ^ (k + 1) : Nat) : Int)) k_122_102 (by have hc1 : (C ^ k) * C ≤ 256 * 4 := Nat.mul_le_mul hck (by omega); have hc2 : ((C ^ k : Nat) : Int) * (C : Int) = ((C ^ k * C : Nat) : Int) := rfl; rw [zb_mul ⟨by omega, by omega⟩, hc2, Nat.pow_succ]) ?_
      refine r_istore (L' := [vR (27), vI (sh), vI (ln), vI (f), vI (n), vI (i), vI (why), vI (at0), vI (((C ^ (k + 1) : Nat) : Int)), vI ((k : Int)), vU, vU, vU, vU, vU]) k_122_103 rfl ?_
      refine r_iinc (v := (k : Int) + 1) (L' := [vR (27), vI (sh), vI (ln), vI (f), vI (n), vI (i), vI (why), vI (at0), vI (((C ^ (k + 1) : Nat) : Int)), vI ((k : Int) + 1), vU, vU, vU, vU, vU]) k_122_105 rfl (zb_add ⟨by omega, by omega⟩) rfl ?_
      refine r_goto k_122_108 ?_
      refine ih _ (by omega) N (k + 1) at0 why rfl (by omega) hN n4 hq
  show zG (d + 4) 122 K 0 zfx (0, [vR (27), vI (sh), vI (ln), vI (f), vI (n), vI (i), vU, vU, vU, vU, vU, vU, vU, vU, vU], [], σ)
  refine r_iload k_122_0 rfl ?_
  refine r_iload k_122_1 rfl ?_
  refine r_call (as := [vI (sh), vI (ln)]) (r := []) k_122_2 rfl rfl rfl ?_
  refine y_isSheet (fun g2 => ?_) (fun g2 => ?_)
  · skip
    refine r_if_eq k_122_5 (fun hz => absurd hz (by decide)) (fun _ => ?_)
    refine r_iload k_122_8 rfl ?_
    refine r_cnv (w := vL (n)) k_122_10 rfl ?_
    refine r_lconst k_122_11 ?_
    refine r_lconst k_122_12 ?_
    refine r_call (as := [vL (n), vL (1), vL (4)]) (r := []) k_122_15 rfl rfl rfl ?_
    refine t_in (fun g15 => ?_) (fun g15 => ?_)
    · skip
      refine r_if_eq k_122_18 (fun hz => absurd hz (by decide)) (fun _ => ?_)
      refine r_iload k_122_21 rfl ?_
      refine r_cnv (w := vL (i)) k_122_23 rfl ?_
      refine r_lconst k_122_24 ?_
      refine r_iload k_122_27 rfl ?_
      refine r_const k_122_29 ?_
      refine r_bin (v := n - 1) k_122_30 (zb_sub ⟨by omega, by omega⟩) ?_
      refine r_cnv (w := vL (n - 1)) k_122_31 rfl ?_
      refine r_call (as := [vL (i), vL (-1), vL (n - 1)]) (r := []) k_122_32 rfl rfl rfl ?_
      refine t_in (fun g32 => ?_) (fun g32 => ?_)
      · skip
        refine r_if_ne k_122_35 (fun _ => ?_) (fun hz => absurd hz (by decide))
        refine r_aload k_122_40 rfl ?_
        refine r_iload k_122_41 rfl ?_
        refine r_iload k_122_42 rfl ?_
        refine r_iload k_122_43 rfl ?_
        refine r_iload k_122_44 rfl ?_
        refine r_call (as := [vR (27), vI (sh), vI (ln), vI (f), vI (n)]) (r := []) k_122_46 rfl rfl rfl ?_
        obtain ⟨s, hsh⟩ : ∃ s : Nat, sh = s := ⟨Int.toNat sh, by omega⟩
        have hs : s < 4 := by omega
        have b15 := hJ s hs
        refine y_found hsh hs (by omega) (by omega) (by omega) (by omega) ?_
        have hzn := zref_n (σ.2 16 s) (σ.2 15 s) ln f n
        refine r_istore (L' := [vR (27), vI (sh), vI (ln), vI (f), vI (n), vI (i), vI ((zref (σ.2 16 s) (σ.2 15 s) ln f n)), vU, vU, vU, vU, vU, vU, vU, vU]) k_122_49 rfl ?_
        refine r_iload k_122_51 rfl ?_
        refine r_if_ge k_122_53 (fun h53 => ?_) (fun h53 => ?_)
        · skip
          refine r_const k_122_59 ?_
          refine r_iload k_122_61 rfl ?_
          refine r_bin (v := 48 * sh) k_122_62 (zb_mul ⟨by omega, by omega⟩) ?_
          refine r_iload k_122_63 rfl ?_
          refine r_bin (v := 48 * sh + f) k_122_64 (zb_add ⟨by have := zref_0 (ln := σ.2 16 s) (len := σ.2 15 s) (lane := ln) (f := f) (n := n) (by omega); omega, by have := zref_0 (ln := σ.2 16 s) (len := σ.2 15 s) (lane := ln) (f := f) (n := n) (by omega); omega⟩) ?_
          refine r_istore (L' := [vR (27), vI (sh), vI (ln), vI (f), vI (n), vI (i), vI ((zref (σ.2 16 s) (σ.2 15 s) ln f n)), vI (48 * sh + f), vU, vU, vU, vU, vU, vU, vU]) k_122_65 rfl ?_
          refine r_aload k_122_67 rfl ?_
          refine r_iload k_122_68 rfl ?_
          refine r_iload k_122_70 rfl ?_
          refine r_call (as := [vR (27), vI (48 * sh + f), vI (n)]) (r := []) k_122_72 rfl rfl rfl ?_
          have hz := zref_0 (ln := σ.2 16 s) (len := σ.2 15 s) (lane := ln) (f := f) (n := n) (by omega)
          obtain ⟨F, hF⟩ : ∃ F : Nat, f = F := ⟨f.toNat, by omega⟩
          obtain ⟨N, hN⟩ : ∃ N : Nat, n = N := ⟨n.toNat, by omega⟩
          refine y_rising (d := d + 1) (A := 48 * s + F) hg hy (by omega) hN (by omega) (by omega) (fun hr => ?_) (fun hr => ?_)
          · skip
            refine r_if_ne k_122_75 (fun _ => ?_) (fun hz => absurd hz (by decide))
            refine r_const k_122_81 ?_
            refine r_istore (L' := [vR (27), vI (sh), vI (ln), vI (f), vI (n), vI (i), vI ((zref (σ.2 16 s) (σ.2 15 s) ln f n)), vI (48 * sh + f), vI (1), vU, vU, vU, vU, vU, vU]) k_122_82 rfl ?_
            refine r_const k_122_84 ?_
            refine r_istore (L' := [vR (27), vI (sh), vI (ln), vI (f), vI (n), vI (i), vI ((zref (σ.2 16 s) (σ.2 15 s) ln f n)), vI (48 * sh + f), vI (1), vI (0), vU, vU, vU, vU, vU]) k_122_85 rfl ?_
            obtain ⟨P, hP1, hP2, hP3⟩ := zris_P hr
            refine lpp N N 0 (48 * sh + f) ((zref (σ.2 16 s) (σ.2 15 s) ln f n)) (by omega) (Nat.zero_le _) hN (by omega) ?_
            refine r_aload k_122_111 rfl ?_
            refine r_call (as := [vR (27)]) (r := []) k_122_112 rfl rfl rfl ?_
            refine v_lay (N := l.length) hy.2.2.2.2.1 hl (fun τ1 f1 r1 => ?_)
            refine r_istore (L' := [vR (27), vI (sh), vI (ln), vI (f), vI (n), vI (i), vI ((zref (σ.2 16 s) (σ.2 15 s) ln f n)), vI (48 * sh + f), vI (((C ^ N : Nat) : Int)), vI ((l.length : Int)), vU, vU, vU, vU, vU]) k_122_115 rfl ?_
            refine r_const k_122_117 ?_
            refine r_istore (L' := [vR (27), vI (sh), vI (ln), vI (f), vI (n), vI (i), vI ((zref (σ.2 16 s) (σ.2 15 s) ln f n)), vI (48 * sh + f), vI (((C ^ N : Nat) : Int)), vI ((l.length : Int)), vI (0), vU, vU, vU, vU]) k_122_118 rfl ?_
            refine r_const k_122_120 ?_
            refine r_istore (L' := [vR (27), vI (sh), vI (ln), vI (f), vI (n), vI (i), vI ((zref (σ.2 16 s) (σ.2 15 s) ln f n)), vI (48 * sh + f), vI (((C ^ N : Nat) : Int)), vI ((l.length : Int)), vI (0), vI (-4), vU, vU, vU]) k_122_122 rfl ?_
            refine r_const k_122_124 ?_
            refine r_istore (L' := [vR (27), vI (sh), vI (ln), vI (f), vI (n), vI (i), vI ((zref (σ.2 16 s) (σ.2 15 s) ln f n)), vI (48 * sh + f), vI (((C ^ N : Nat) : Int)), vI ((l.length : Int)), vI (0), vI (-4), vI (0), vU, vU]) k_122_125 rfl ?_
            have hC1 : 1 ≤ C := by omega
            have ez := zwr_all (law := law) (least := least) (n := N) (l := l) hC1 (by omega) hP2 hP3
            exact lpw (C ^ N) (48 * s + F) N 0 0 P (48 * sh + f) ((zref (σ.2 16 s) (σ.2 15 s) ln f n)) (-4) _ (by omega) (by omega) hN (by omega) (by omega) (by omega) (by omega) hP1 hP2 hP3 (by omega) (by omega) (fun _ => rfl) (zfr_w f1 (by decide) (by decide)) (fun x hx _ => zYrs hy r1 x hx) (fun υ fu => zKe (q4 s F N P hsh hs (by omega) (by omega) (by omega) (by omega) (by omega) (by omega) (by omega) hF hN hP1 hP2 hP3 υ fu) (by rw [ez]))
          · skip
            refine r_if_ne k_122_75 (fun hz => absurd hz (by decide)) (fun _ => ?_)
            refine r_const k_122_78 ?_
            refine r_iret k_122_80 ?_
            exact q3 s F N hsh hs (by omega) (by omega) (by omega) (by omega) (by omega) (by omega) (by omega) hF hN hr _ zfr_rf
        · skip
          refine r_iload k_122_56 rfl ?_
          refine r_iret k_122_58 ?_
          exact q2 s hsh hs (by omega) (by omega) (by omega) (by omega) (by omega) (by omega) (by omega)
      · skip
        refine r_if_ne k_122_35 (fun hz => absurd hz (by decide)) (fun _ => ?_)
        refine r_const k_122_38 ?_
        refine r_iret k_122_39 ?_
        exact q1 (by omega)
    · skip
      refine r_if_eq k_122_18 (fun _ => ?_) (fun hz => absurd hz (by decide))
      refine r_const k_122_38 ?_
      refine r_iret k_122_39 ?_
      exact q1 (by omega)
  · skip
    refine r_if_eq k_122_5 (fun _ => ?_) (fun hz => absurd hz (by decide))
    refine r_const k_122_38 ?_
    refine r_iret k_122_39 ?_
    exact q1 (by omega)
theorem p_storm {d : Nat} {σ : zM} (h : zInv σ) {sh ln f n i : Int} (hf1 : -2147483648 ≤ f) (hf2 : f < 2147483648) : zC (d + 41) 65 [vR 0, vI sh, vI ln, vI f, vI n, vI i] σ (fun σ1 r1 => zC (d + 5) 122 [vR 27, vI sh, vI ln, vI f, vI n, vI i] σ1 (zpq σ1 r1)) := by
  have hI := h.2.2.2
  obtain ⟨C, law, least, draw, l, p, hg, hx, hy⟩ := h.1
  refine x_storm hg hx hI (fun q => ?_) (fun s e hs a1 a2 a3 a4 a5 a6 g => ?_) (fun s F N e hs a1 a2 a3 a4 a5 a6 g eF eN gr τ ft => ?_) (fun s F N P e hs a1 a2 a3 a4 a5 a6 g eF eN b1 b2 b3 τ ft => ?_)
  · exact y_storm hg hy (zIh_J hI) hf1 hf2 (fun _ => ⟨⟨_, rfl, rfl⟩, h⟩) (fun s e hs a1 a2 a3 a4 a5 a6 => absurd ⟨⟨by omega, by omega⟩, ⟨a1, a2⟩, ⟨a3, a4⟩, a5, a6⟩ q) (fun s F N e hs a1 a2 a3 a4 a5 a6 => absurd ⟨⟨by omega, by omega⟩, ⟨a1, a2⟩, ⟨a3, a4⟩, a5, a6⟩ q) (fun s F N P e hs a1 a2 a3 a4 a5 a6 => absurd ⟨⟨by omega, by omega⟩, ⟨a1, a2⟩, ⟨a3, a4⟩, a5, a6⟩ q)
  · obtain ⟨b1, b2, b3, b4, b5⟩ := hI s hs
    refine y_storm hg hy (zIh_J hI) hf1 hf2 (fun q => absurd ⟨⟨by omega, by omega⟩, ⟨a1, a2⟩, ⟨a3, a4⟩, a5, a6⟩ q) (fun s2 e2 _ _ _ _ _ _ _ g2 => ?_) (fun s2 F N e2 _ _ _ _ _ _ _ g2 => ?_) (fun s2 F N P e2 _ _ _ _ _ _ _ g2 => ?_)
    · obtain rfl : s2 = s := by omega
      exact ⟨⟨_, rfl, by rw [b2, b4]⟩, h⟩
    · obtain rfl : s2 = s := by omega
      rw [b2, b4] at g2; exact absurd g2 g
    · obtain rfl : s2 = s := by omega
      rw [b2, b4] at g2; exact absurd g2 g
  · have h2 := zInv_fr h ft (by decide) (by decide)
    have hI2 := h2.2.2.2
    obtain ⟨b1, b2, b3, b4, b5⟩ := hI s hs
    have hy2 : zYn (τ.2 12) C law least draw l p := by rw [ft.2 12 (by decide)]; exact hy
    have hz := zref_0 g
    refine y_storm hg hy2 (zIh_J hI2) hf1 hf2 (fun q => absurd ⟨⟨by omega, by omega⟩, ⟨a1, a2⟩, ⟨a3, a4⟩, a5, a6⟩ q) (fun s2 e2 _ _ _ _ _ _ _ g2 => ?_) (fun s2 F2 N2 e2 _ _ _ _ _ _ _ g2 _ _ _ υ fu => ⟨⟨_, rfl, rfl⟩, zInv_fr h2 fu (by decide) (by decide)⟩) (fun s2 F2 N2 P e2 _ _ _ _ _ _ _ g2 eF2 eN2 c1 c2 c3 => ?_)
    · obtain rfl : s2 = s := by omega
      rw [ft.2 16 (by decide), ft.2 15 (by decide), b2, b4] at g2; exact absurd g g2
    · obtain rfl : s2 = s := by omega
      obtain rfl : F2 = F := by omega
      obtain rfl : N2 = N := by omega
      have hP : ∀ j, j < N2 → σ.2 (7 + s2) (F2 + j) = (P j : Int) := fun j hj => by
        have := c1 j hj
        rw [ft.2 17 (by decide)] at this
        dsimp only at this
        rw [Nat.add_assoc, b5 _ (by omega)] at this
        exact this
      refine absurd ⟨fun j hj => ?_, fun j hj => ?_⟩ gr
      · dsimp only; rw [hP j hj]; have := c3 j hj; omega
      · dsimp only; rw [hP j (by omega), hP (j + 1) hj]; have := c2 j (j + 1) (by omega) hj; omega
  · have h2 := zInv_fr h ft (by decide) (by decide)
    have hI2 := h2.2.2.2
    obtain ⟨d1, d2, d3, d4, d5⟩ := hI s hs
    have hy2 : zYn (τ.2 12) C law least draw l p := by rw [ft.2 12 (by decide)]; exact hy
    have hz := zref_0 g
    have hP : ∀ j, j < N → τ.2 17 (48 * s + F + j) = (P j : Int) := fun j hj => by
      rw [ft.2 17 (by decide), Nat.add_assoc, d5 _ (by omega)]; exact b1 j hj
    refine y_storm hg hy2 (zIh_J hI2) hf1 hf2 (fun q => absurd ⟨⟨by omega, by omega⟩, ⟨a1, a2⟩, ⟨a3, a4⟩, a5, a6⟩ q) (fun s2 e2 _ _ _ _ _ _ _ g2 => ?_) (fun s2 F2 N2 e2 _ _ _ _ _ _ _ g2 eF2 eN2 gr => ?_) (fun s2 F2 N2 Q e2 _ _ _ _ _ _ _ g2 eF2 eN2 c1 c2 c3 υ fu => ⟨⟨_, rfl, ?_⟩, zInv_fr h2 fu (by decide) (by decide)⟩)
    · obtain rfl : s2 = s := by omega
      rw [ft.2 16 (by decide), ft.2 15 (by decide), d2, d4] at g2; exact absurd g g2
    · obtain rfl : s2 = s := by omega
      obtain rfl : F2 = F := by omega
      obtain rfl : N2 = N := by omega
      refine absurd ⟨fun j hj => ?_, fun j hj => ?_⟩ gr
      · dsimp only; rw [hP j hj]; have := b3 j hj; omega
      · dsimp only; rw [hP j (by omega), hP (j + 1) hj]; have := b2 j (j + 1) (by omega) hj; omega
    · obtain rfl : s2 = s := by omega
      obtain rfl : F2 = F := by omega
      obtain rfl : N2 = N := by omega
      have hQP : ∀ j, j < N2 → Q j = P j := fun j hj => by
        have e1 := c1 j hj
        have e2 := hP j hj
        dsimp only at e1
        rw [e2] at e1
        omega
      rw [zsa_congr (by omega) hQP]
      unfold zwans
      by_cases ii : i < 0
      · rw [if_pos ii, if_pos ii]
      · rw [if_neg ii, if_neg ii, hQP i.toNat (by omega)]
