/-! the small machine: monotone, runs, rules -/
theorem zld_mono {L : List zV} {t i : Nat} {f g : zV → Prop} (h : ∀ v, f v → g v) (q : zld L t i f) : zld L t i g := by
  unfold zld at q ⊢
  cases hL : L[i]? with
  | none => rw [hL] at q; exact q
  | some v =>
    rw [hL] at q
    dsimp only at q ⊢
    split at q
    · exact h _ q
    · exact h _ q
    · exact h _ q
    · exact h _ q
    · exact q.elim
set_option maxHeartbeats 4000000 in
theorem zEx_mono {Call : Nat → List zV → zM → (zM → Option zV → Prop) → Prop} {K K' : zM → Option zV → Prop} {sL : Nat} {xs : Nat → Int} {X Y : zS → Prop}
    (hC : ∀ mi as σ (K1 K2 : zM → Option zV → Prop), (∀ σ v, K1 σ v → K2 σ v) → Call mi as σ K1 → Call mi as σ K2) (hK : ∀ σ v, K σ v → K' σ v) (hX : ∀ S, X S → Y S)
    (e : zE) (L st : List zV) (σ : zM) (h : zEx Call K sL xs X e L st σ) : zEx Call K' sL xs Y e L st σ := by
  obtain ⟨op, nxt, a, b, z⟩ := e
  unfold zEx at h ⊢
  dsimp only at h ⊢
  split at h
  case h_2 => exact zld_mono (fun v q => hX _ q) h
  case h_3 => exact zld_mono (fun v q => hX _ q) h
  case h_4 => exact zld_mono (fun v q => hX _ q) h
  case h_8 => exact zld_mono (fun v q => by split at q; exact hX _ q; exact q.elim) h
  all_goals first
    | exact hX _ h
    | ((repeat' (split at h)) <;> first
        | exact h.elim
        | exact hX _ h
        | exact hK _ _ h
        | exact ⟨h.1, hX _ h.2⟩
        | exact ⟨h.1, hK _ _ h.2⟩
        | exact ⟨fun c => hX _ (h.1 c), fun c => hX _ (h.2 c)⟩
        | exact hC _ _ _ _ _ (fun _ _ q => hX _ q) h
        | (simp only [*]; first | exact hX _ h | exact ⟨h.1, hX _ h.2⟩ | exact hC _ _ _ _ _ (fun _ _ q => hX _ q) h))
theorem zStep_mono {Call : Nat → List zV → zM → (zM → Option zV → Prop) → Prop} {K K' : zM → Option zV → Prop} {sL : Nat} {xs : Nat → Int} {X Y : zS → Prop}
    (hC : ∀ mi as σ (K1 K2 : zM → Option zV → Prop), (∀ σ v, K1 σ v → K2 σ v) → Call mi as σ K1 → Call mi as σ K2) (hK : ∀ σ v, K σ v → K' σ v) (hX : ∀ S, X S → Y S)
    (mi : Nat) (S : zS) (h : zStep Call K sL xs X mi S) : zStep Call K' sL xs Y mi S := by
  unfold zStep at h ⊢
  cases hb : Nat.blt S.1 (zN mi) with
  | true => rw [hb] at h; exact zEx_mono hC hK hX _ _ _ _ h
  | false => rw [hb] at h; exact h
theorem zGo_mono {F G : (zS → Prop) → zS → Prop} (h : ∀ X S, F X S → G X S) {S : zS} (q : zGo F S) : zGo G S :=
  fun X hX hc => q X (fun S hS => hX S (h X S hS)) hc
theorem zC_mono : ∀ (d mi : Nat) (as : List zV) (σ : zM) (K1 K2 : zM → Option zV → Prop), (∀ σ v, K1 σ v → K2 σ v) → zC d mi as σ K1 → zC d mi as σ K2
  | 0, _, _, _, _, _, _, h => h
  | d + 1, mi, as, σ, K1, K2, hK, h => by
    unfold zC at h ⊢
    cases hb : Nat.ble (zlay as).length (zl mi) with
    | false => rw [hb] at h; exact h
    | true =>
      rw [hb] at h
      exact zGo_mono (fun X S q => zStep_mono (zC_mono d) hK (fun _ q => q) mi S q) h
/-- one step of method mi inside a call at depth d + 1 (the law: its own script) -/
def zF (d mi : Nat) (K : zM → Option zV → Prop) (sL : Nat) (xs : Nat → Int) : (zS → Prop) → zS → Prop := fun X S => zStep (zC d) K sL xs X mi S
abbrev zfx : Nat → Int := fun _ => 0
def zG (d mi : Nat) (K : zM → Option zV → Prop) (sL : Nat) (xs : Nat → Int) (S : zS) : Prop := zGo (zF d mi K sL xs) S
theorem zG_fold {d mi : Nat} {K : zM → Option zV → Prop} {sL : Nat} {xs : Nat → Int} {S : zS} (h : zStep (zC d) K sL xs (zG d mi K sL xs) mi S) : zG d mi K sL xs S :=
  fun X hX hc => hX S (zStep_mono (zC_mono d) (fun _ _ q => q) (fun S q => q X hX hc) mi S h)
theorem zG_cut {d mi : Nat} {K : zM → Option zV → Prop} {sL : Nat} {xs : Nat → Int} {S : zS} (k : Nat) (h : zG d mi K sL xs (S.1, zcut k S.2.1, S.2.2)) : zG d mi K sL xs S :=
  fun X hX hc => hc S k (h X hX hc)
/-- where a run stops: a place of the code, and how many locals are kept there -/
def zst : List (Nat × Nat) → Nat → Option Nat
  | [], _ => none
  | (p, k) :: T, pc => match Nat.beq p pc with | true => some k | false => zst T pc
def zRun (d mi : Nat) (K : zM → Option zV → Prop) (sL : Nat) (xs : Nat → Int) (T : List (Nat × Nat)) : Nat → zS → Prop
  | 0, S => zG d mi K sL xs S
  | n + 1, S => match zst T S.1 with
    | some k => zG d mi K sL xs (S.1, zcut k S.2.1, S.2.2)
    | none => zStep (zC d) K sL xs (zRun d mi K sL xs T n) mi S
theorem zRun_G {d mi : Nat} {K : zM → Option zV → Prop} {sL : Nat} {xs : Nat → Int} {T : List (Nat × Nat)} : ∀ (n : Nat) (S : zS), zRun d mi K sL xs T n S → zG d mi K sL xs S
  | 0, _, h => h
  | n + 1, S, h => by
    unfold zRun at h
    cases hz : zst T S.1 with
    | some k => rw [hz] at h; exact zG_cut k h
    | none => rw [hz] at h; exact zG_fold (zStep_mono (zC_mono d) (fun _ _ q => q) (fun S q => zRun_G n S q) mi S h)
/-- the rule: run on from S to the next stops -/
theorem zG_run (T : List (Nat × Nat)) (n : Nat) {d mi : Nat} {K : zM → Option zV → Prop} {sL : Nat} {xs : Nat → Int} {S : zS} (h : zStep (zC d) K sL xs (zRun d mi K sL xs T n) mi S) : zG d mi K sL xs S :=
  zG_fold (zStep_mono (zC_mono d) (fun _ _ q => q) (fun S q => zRun_G n S q) mi S h)
/-- the rule: a call's entry -/
theorem zC_in {d mi : Nat} {as : List zV} {σ : zM} {K : zM → Option zV → Prop} (hl : Nat.ble (zlay as).length (zl mi) = true) (h : zG d mi K 0 zfx (0, zpad (zl mi) (zlay as), [], σ)) : zC (d + 1) mi as σ K := by
  unfold zC
  rw [hl]
  exact h
def zrw : Nat → Nat := fun r => match r with | 0 => 2 | 1 => 7 | 2 => 22 | _ => 24
