/-! how far: the class -/
theorem zgo_len {C : Nat} {law least : Int} {n : Nat} {l : List Int} : l.length ≤ (zgo C law least n l).length ∧ (zgo C law least n l).length ≤ l.length + n := by
  have hC : ∀ (V : List Int → List Int → List Int × Bool) (l b : List Int), (∀ x b, b.length ≤ (V x b).1.length) → ∀ (n c : Nat) (b : List Int), b.length ≤ (zvisC law least V l n c b).1.length := by
    intro V l b hV n
    induction n with
    | zero => intro c b; exact Nat.le_refl _
    | succ n ih =>
      intro c b
      unfold zvisC
      split
      · split
        · exact hV _ _
        · exact Nat.le_trans (hV _ _) (ih _ _)
      · exact ih _ _
  have hb : ∀ (x b : List Int), b.length ≤ (zbest x b).length := fun x b => by unfold zbest; split <;> omega
  have h : ∀ (m : Nat) (x b : List Int), b.length ≤ (zvis C law least m x b).1.length := by
    intro m
    induction m with
    | zero => intro x b; exact hb x b
    | succ m ih => intro x b; rw [zvis]; exact Nat.le_trans (hb x b) (hC _ _ b ih _ _ _)
  unfold zgo
  split
  · exact ⟨h n l l, zvis_len n l l (Nat.le_refl _) (by omega)⟩
  · exact ⟨Nat.le_refl _, by omega⟩
theorem v_go {d : Nat} {σ : zM} {K : zM → Option zV → Prop} {C : Nat} {law least : Int} {l : List Int} {k n : Nat} (hb : zbd C law least) (hw : zrl σ C law least) (hz : zis σ 0 l) (hc : zcol l) (hl : l.length ≤ 48) (hk : k ≤ l.length) (hn : n ≤ 24) (hkn : k + n ≤ 70) (q1 : ∀ τ, zfr [2, 3] [2, 3] σ τ → zis τ 3 (zgo C law least n (l.take k)) → K τ (some (vI (((zgo C law least n (l.take k)).length : Int) - (k : Int))))) : zC (d + 40) 44 [vR 0, vI k, vI n] σ K := by
  have F0 : zfr [2, 3] [2, 3] σ σ := zfr_rf
  have hct := zcol_t hc k
  have hlt : (l.take k).length = k := by rw [List.length_take]; omega
  have hgl := zgo_len (C := C) (law := law) (least := least) (n := n) (l := l.take k)
  refine zC_in rfl ?_
  show zG (d + 39) 44 K 0 zfx (0, [vR (0), vI ((k : Int)), vI ((n : Int))], [], σ)
  refine r_aload k_44_0 rfl ?_
  refine r_getR (q := 22) k_44_1 ⟨rfl, rfl⟩ ?_
  refine r_aload k_44_4 rfl ?_
  refine r_getR (q := 1) k_44_5 ⟨rfl, rfl⟩ ?_
  refine r_getR (q := 2) k_44_8 ⟨rfl, rfl⟩ ?_
  refine r_iload k_44_11 rfl ?_
  refine r_call (as := [vR (22), vR (2), vI ((k : Int))]) (r := []) k_44_12 rfl rfl rfl ?_
  refine s_takel (r := 2) (t := 0) (l := l) (m := k) (by decide) (by decide) hz (by omega) rfl (by omega) (fun τ11 f11 z11 => ?_)
  replace f11 := zfr_w (S' := [2]) (A' := [2]) f11 (by decide) (by decide)
  have F11 := zfr_2 F0 f11 (by decide) (by decide)
  have Z11_0 := zis_fr hz f11 (by decide) (by decide)
  have W11 := zrl_fr hw f11 (by decide)
  refine r_aload k_44_15 rfl ?_
  refine r_getR (q := 24) k_44_16 ⟨rfl, rfl⟩ ?_
  refine r_aload k_44_19 rfl ?_
  refine r_getR (q := 1) k_44_20 ⟨rfl, rfl⟩ ?_
  refine r_getR (q := 2) k_44_23 ⟨rfl, rfl⟩ ?_
  refine r_iload k_44_26 rfl ?_
  refine r_call (as := [vR (24), vR (2), vI ((k : Int))]) (r := []) k_44_27 rfl rfl rfl ?_
  refine s_takel (r := 3) (t := 0) (l := l) (m := k) (by decide) (by decide) Z11_0 (by omega) rfl (by omega) (fun τ12 f12 z12 => ?_)
  replace f12 := zfr_w (S' := [3]) (A' := [3]) f12 (by decide) (by decide)
  have F12 := zfr_2 F11 f12 (by decide) (by decide)
  have Z12_2 := zis_fr z11 f12 (by decide) (by decide)
  have Z12_0 := zis_fr Z11_0 f12 (by decide) (by decide)
  have W12 := zrl_fr W11 f12 (by decide)
  refine r_aload k_44_30 rfl ?_
  refine r_getR (q := 1) k_44_31 ⟨rfl, rfl⟩ ?_
  refine r_getR (q := 4) k_44_34 ⟨rfl, rfl⟩ ?_
  refine r_aload k_44_37 rfl ?_
  refine r_getR (q := 22) k_44_38 ⟨rfl, rfl⟩ ?_
  refine r_call (as := [vR (4), vR (22)]) (r := []) k_44_41 rfl rfl rfl ?_
  refine v_faultOf (r := 2) (l := (l.take k)) (by decide) hb W12 Z12_2 hct (by omega) ?_
  refine r_if_ne k_44_44 (fun h44 => ?_) (fun h44 => ?_)
  · skip
    refine r_aload k_44_67 rfl ?_
    refine r_getR (q := 24) k_44_68 ⟨rfl, rfl⟩ ?_
    refine r_getS (v := ((l.take k).length : Int)) k_44_71 ⟨rfl, rfl⟩ z12.1 ?_
    refine r_iload k_44_74 rfl ?_
    refine r_bin (v := ((l.take k).length : Int) - ((k : Int))) k_44_75 (zb_sub ⟨by omega, by omega⟩) ?_
    refine r_iret k_44_76 ?_
    have e : zgo C law least n (l.take k) = l.take k := if_neg (by omega)
    rw [e] at q1
    exact q1 _ F12 z12
  · skip
    refine r_aload k_44_47 rfl ?_
    refine r_getR (q := 1) k_44_48 ⟨rfl, rfl⟩ ?_
    refine r_getR (q := 4) k_44_51 ⟨rfl, rfl⟩ ?_
    refine r_aload k_44_54 rfl ?_
    refine r_getR (q := 22) k_44_55 ⟨rfl, rfl⟩ ?_
    refine r_iload k_44_58 rfl ?_
    refine r_aload k_44_59 rfl ?_
    refine r_getR (q := 24) k_44_60 ⟨rfl, rfl⟩ ?_
    refine r_call (as := [vR (4), vR (22), vI ((n : Int)), vR (24)]) (r := []) k_44_63 rfl rfl rfl ?_
    refine v_goOn hb n (d + 39) (by omega) (l := l.take k) (b := l.take k) W12 Z12_2 z12 hct (by omega) (by omega) (fun τ13 f13 z13 y13 => ?_)
    rw [show (zvis C law least n (l.take k) (l.take k)).1 = zgo C law least n (l.take k) from (if_pos (by omega)).symm] at y13
    have F13 := zfr_2 F12 f13 (by decide) (by decide)
    have Z13_0 := zis_fr Z12_0 f13 (by decide) (by decide)
    have W13 := zrl_fr W12 f13 (by decide)
    refine r_pop k_44_66 ?_
    refine r_aload k_44_67 rfl ?_
    refine r_getR (q := 24) k_44_68 ⟨rfl, rfl⟩ ?_
    refine r_getS (v := ((zgo C law least n (l.take k)).length : Int)) k_44_71 ⟨rfl, rfl⟩ y13.1 ?_
    refine r_iload k_44_74 rfl ?_
    refine r_bin (v := ((zgo C law least n (l.take k)).length : Int) - ((k : Int))) k_44_75 (zb_sub ⟨by omega, by omega⟩) ?_
    refine r_iret k_44_76 ?_
    exact q1 _ F13 y13
