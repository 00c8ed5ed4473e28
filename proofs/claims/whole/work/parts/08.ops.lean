/-! the small machine is the machine: one step -/
def zNW (U : State) : Prop := (∀ q ∈ zfld, q.2.2.1 = 1 → va_Nw (.fieldLinkNest (zR q.1) q.2.1 (zR q.2.2.2.1) (zT q.2.2.2.1 q.2.2.2.2).2.1 (zT q.2.2.2.1 q.2.2.2.2).2.2.1 "PaleFence") U) ∧ (∀ q ∈ zcall, q.2.2.1 = 1 → va_Nw (.methodLinkNest (zR q.1) q.2.1 (zy q.2.2.2) "PaleFence") U)
def zstrB : List (List Int32) := [[114, 119, 98, 103]]
def zEnv (D : va_G) (dA ad : Nat → Nat) (U : State) (H : Heap) : Prop :=
  va_K D vwCl (ztys dA) U ∧ zNW U ∧ vk_S 1 [4] zstrB (fun _ => ad 41) (fun _ => ad 42) (zA ad) U H ∧ va_Z "java/lang/String" "COMPACT_STRINGS" "Z" (.int 1) (zA ad) U H ∧ vk_R "PaleFence" 112 "rwbg" (ad 41) U ∧ ∀ i j : Nat, i < 41 → j < 41 → ad i = ad j → i = j
theorem zEnv_at {D : va_G} {dA ad : Nat → Nat} {u U : State} {H H1 : Heap} (h : zEnv D dA ad u H) (hW : u.WarmedH U.vm) (hq : ∀ a : Nat, a < H.size → ¬ zA ad a → H1[a]? = H[a]?) : zEnv D dA ad U H1 := by
  obtain ⟨h1, h2, h3, h4, h5, h6⟩ := h
  exact ⟨va_K.moved hW.alike h1, ⟨fun q hq h => va_Nw.warmF hW (h2.1 q hq h), fun q hq h => va_Nw.warmM hW (h2.2 q hq h)⟩, (vk_S.moved hW.alike h3).kept hq, (va_Z.moved hW.alike h4).kept hq, vk_R.warm hW h5, h6⟩
theorem zEnv_calling {D : va_G} {dA ad : Nat → Nat} {U : State} {H : Heap} (g : JFrame) (mk : MethodId) (a : Array Value) (h : zEnv D dA ad U H) : zEnv D dA ad (U.calling g mk a) H := by
  obtain ⟨h1, h2, h3, h4, h5, h6⟩ := h
  exact ⟨va_K.moved (u := U) (U := U.calling g mk a) (Vm.Alike.refl U.vm) h1, ⟨fun q hq h => va_Nw.same rfl (rfl : U.vm = (U.calling g mk a).vm) (h2.1 q hq h), fun q hq h => va_Nw.same rfl (rfl : U.vm = (U.calling g mk a).vm) (h2.2 q hq h)⟩, vk_S.moved (u := U) (U := U.calling g mk a) (Vm.Alike.refl U.vm) h3, va_Z.moved (u := U) (U := U.calling g mk a) (Vm.Alike.refl U.vm) h4, vk_R.same (rfl : (U.calling g mk a).vm = U.vm) h5, h6⟩
theorem zD {D : va_G} {dA ad : Nat → Nat} {U : State} {H : Heap} {σ : zM} (h : zEnv D dA ad U H) : va_D (zA ad) (zwl dA ad σ) := by
  have key : ∀ (k : Nat) (q : Nat × va_E), (zwl dA ad σ)[k]? = some q → k < 41 ∧ q.1 = ad k := by
    intro k q hk
    by_cases hl : k < 41
    · rw [zwl_at hl] at hk
      cases hk
      exact ⟨hl, rfl⟩
    · rw [List.getElem?_eq_none (by rw [zwl_len]; omega)] at hk
      cases hk
  refine ⟨fun i j x y hi hj hxy => ?_, fun k q hk => ?_⟩
  · obtain ⟨a1, a2⟩ := key i x hi
    obtain ⟨b1, b2⟩ := key j y hj
    exact h.2.2.2.2.2 i j a1 b1 (by rw [← a2, ← b2]; exact hxy)
  · obtain ⟨a1, a2⟩ := key k q hk
    exact ⟨k, a1, a2⟩
def zws (mi : Nat) : List Cond := Cond.code (zy mi) (zb mi) (zl mi) (zret mi) :: zGT
def zPc (D : va_G) (dA ad : Nat → Nat) (as : List zV) (σ : zM) : Array Value → State → Prop := va_Pc (as.map (zcv ad)) (fun U => va_P D vwCl (zwl dA ad σ) U.heap ∧ zEnv D dA ad U U.heap)
def zQc (D : va_G) (dA ad : Nat → Nat) (K : zM → Option zV → Prop) : Array Value → State → Outcome → State → Prop := fun _ st oc t =>
  (∃ (σ : zM) (r : Option zV), oc = .returned (r.map (zcv ad)) ∧ K σ r ∧ zokM σ ∧ (∀ v, r = some v → zokV v) ∧ va_P D vwCl (zwl dA ad σ) t.heap) ∧ va_F (zA ad) st t
theorem zPc_blind {D : va_G} {dA ad : Nat → Nat} {as : List zV} {σ : zM} : FrameBlind (zPc D dA ad as σ) := by
  rintro a U g mk ⟨h1, h2, h3⟩
  exact ⟨h1, h2, zEnv_calling g mk a h3⟩
theorem zgood_in (mi : Nat) (h : Cond.code (zy mi) (zb mi) (zl mi) (zret mi) ∈ zGT) : GoodIn zGT (zws mi) := by
  intro w hw
  have : w ∈ zGT := by
    rcases List.mem_cons.mp hw with rfl | hw
    · exact h
    · exact hw
  exact ⟨this, good_of_word (zGT_good w this)⟩
/-- what a return is -/
def zretOk (mi : Nat) (pc : Nat) (r : Option zV) : Prop :=
  (r = none ∧ decode (zb mi) pc = .ok (.return_, 1) ∧ zret mi = none) ∨
  (∃ x, r = some (vI x) ∧ decode (zb mi) pc = .ok (.ireturn, 1) ∧ (zret mi = some .int ∨ (zret mi = some .boolean ∧ (x = 0 ∨ x = 1)) ∨ (zret mi = some .byte ∧ x = 0))) ∨
  (∃ x, r = some (vL x) ∧ decode (zb mi) pc = .ok (.lreturn, 1) ∧ zret mi = some .long) ∨
  ((r = some vN ∨ ∃ k, r = some (vR k)) ∧ decode (zb mi) pc = .ok (.areturn, 1) ∧ zret mi = some (.object "PaleFence$Sheet"))
section ZSTEP
variable {p : Program} {l : Launch} {e : Env} {R : Room} {s : State} {m : MethodId} {args : Array Value} {below : List Frame} {meth : Method} {c : Code} {cells slots : Nat} {Q : State → Prop} {D : va_G} {dA ad : Nat → Nat}
theorem z_call {K : zM → Option zV → Prop} {H : Heap} {locs : List Loc} {pc : Nat} {ls : Array Slot} {st0 rest : List Value} {a : Array Value} {H0 : Heap}
    (hr : va_Run p l e R s m args below meth c H locs cells slots 0 0 (F0 m pc ls st0) rest (zQc D dA ad K a) (zA ad)) (hS : va_S (zA ad) H0 H locs)
    (kk : ∀ (σ : zM) (r : Option zV) (H1 : Heap) (locs1 : List Loc), K σ r → zokM σ → (∀ v, r = some v → zokV v) → va_P D vwCl (zwl dA ad σ) H1 → va_S (zA ad) H0 H1 locs1 → W p l e R s m args below meth c H1 locs1 cells slots Q (F0 m (pc + 3) ls ((r.map (zcv ad)).toList ++ rest))) :
    W p l e R s m args below meth c H locs cells slots Q (F0 m pc ls st0) := by
  intro T hT X
  obtain ⟨v, st₀, t, T', L, h0, X', hL, e1, e2, ⟨⟨σ, r, hv, hk1, hk2, hk3, hk4⟩, hz, hk⟩, st⟩ := hr T hT X
  cases hv
  rw [h0] at hz hk
  obtain ⟨t2, a1, b1⟩ := kk σ r T'.heap (locs ++ L) hk1 hk2 hk3 (by rw [e1]; exact hk4)
    ⟨Nat.le_trans hS.1 (by rw [e1]; exact hz), fun q h1 h2 => by rw [e1, hk q (Nat.lt_of_lt_of_le h1 hS.1) h2]; exact hS.2.1 q h1 h2, fun q hq => by
      rcases List.mem_append.mp hq with h | h
      · exact hS.2.2 q h
      · exact hL q h⟩ T' rfl X'
  exact ⟨t2, st t2 a1, b1⟩
def zWX (p : Program) (l : Launch) (e : Env) (R : Room) (s : State) (m : MethodId) (args : Array Value) (below : List Frame) (meth : Method) (c : Code) (cells slots : Nat) (Q : State → Prop) (D : va_G) (dA ad : Nat → Nat) (nL : Nat) : zS → Prop := fun S =>
  ∀ (H : Heap) (locs : List Loc) (ls : Array Slot), (∀ v ∈ S.2.1, zokV v) → (∀ v ∈ S.2.2.1, zokV v) → zokM S.2.2.2 → lv_has ls nL (zlc ad 0 S.2.1) → va_P D vwCl (zwl dA ad S.2.2.2) H → va_S (zA ad) s.heap H locs →
    W p l e R s m args below meth c H locs cells slots Q (F0 m S.1 ls (S.2.2.1.map (zcv ad)))
theorem zWX_cut {nL : Nat} {S : zS} (k : Nat) (h : zWX p l e R s m args below meth c cells slots Q D dA ad nL (S.1, zcut k S.2.1, S.2.2)) : zWX p l e R s m args below meth c cells slots Q D dA ad nL S :=
  fun H locs ls hL hst hM hh hP hS => h H locs ls (zcut_ok hL) hst hM (zcut_has hh) hP hS
theorem zld_1 {L : List zV} {i : Nat} {f : zV → Prop} (h : zld L 1 i f) : ∃ x, L[i]? = some (.inl x) ∧ f (.inl x) := by
  unfold zld at h
  cases hL : L[i]? with
  | none => rw [hL] at h; exact h.elim
  | some v =>
    rw [hL] at h
    rcases v with x | x | k | b
    · exact ⟨x, rfl, h⟩
    · exact h.elim
    · exact h.elim
    · cases b <;> exact h.elim
theorem zld_2 {L : List zV} {i : Nat} {f : zV → Prop} (h : zld L 2 i f) : (∃ k, L[i]? = some (.inr (.inr (.inl k))) ∧ f (.inr (.inr (.inl k)))) ∨ (L[i]? = some vN ∧ f vN) := by
  unfold zld at h
  cases hL : L[i]? with
  | none => rw [hL] at h; exact h.elim
  | some v =>
    rw [hL] at h
    rcases v with x | x | k | b
    · exact h.elim
    · exact h.elim
    · exact Or.inl ⟨k, rfl, h⟩
    · cases b
      · exact h.elim
      · exact Or.inr ⟨rfl, h⟩
theorem zld_3 {L : List zV} {i : Nat} {f : zV → Prop} (h : zld L 3 i f) : ∃ x, L[i]? = some (.inr (.inl x)) ∧ f (.inr (.inl x)) := by
  unfold zld at h
  cases hL : L[i]? with
  | none => rw [hL] at h; exact h.elim
  | some v =>
    rw [hL] at h
    rcases v with x | x | k | b
    · exact h.elim
    · exact ⟨x, rfl, h⟩
    · exact h.elim
    · cases b <;> exact h.elim
theorem zok_push {v : zV} {st : List zV} (hv : zokV v) (h : ∀ w ∈ st, zokV w) : ∀ w ∈ v :: st, zokV w := by
  intro w hw
  rcases List.mem_cons.mp hw with rfl | hw
  · exact hv
  · exact h w hw
theorem zok_at {L : List zV} (h : ∀ w ∈ L, zokV w) {i : Nat} {v : zV} (hv : L[i]? = some v) : zokV v := h v (List.mem_of_getElem? hv)

theorem zo_iconst {mi pc : Nat} {L st : List zV} {σ : zM} (hx : p.tables.exec = Jvm.exec) (hb : c.code = zb mi) (hml : c.maxLocals = zl mi) (hown : s.vm.findClass (zR (zown mi)) = some m.cls) (hts : ∀ w ∈ zGT, w.before args s = true) (hE : zEnv D dA ad s s.heap) {n : Int} (hd : decode (zb mi) pc = .ok (.iconst n, 1)) (hn : zi32 n) (k : zWX p l e R s m args below meth c cells slots Q D dA ad (zl mi) (pc + 1, L, vI n :: st, σ)) : zWX p l e R s m args below meth c cells slots Q D dA ad (zl mi) (pc, L, st, σ) := by
  intro H locs ls hL hst hM hh hP hS
  exact lv_iconst hx hb hd rfl (k H locs ls hL (zok_push hn hst) hM hh hP hS)

theorem zo_bipush {mi pc : Nat} {L st : List zV} {σ : zM} (hx : p.tables.exec = Jvm.exec) (hb : c.code = zb mi) (hml : c.maxLocals = zl mi) (hown : s.vm.findClass (zR (zown mi)) = some m.cls) (hts : ∀ w ∈ zGT, w.before args s = true) (hE : zEnv D dA ad s s.heap) {n : Int} (hd : decode (zb mi) pc = .ok (.bipush n, 2)) (hn : -128 ≤ n ∧ n < 128) (k : zWX p l e R s m args below meth c cells slots Q D dA ad (zl mi) (pc + 2, L, vI n :: st, σ)) : zWX p l e R s m args below meth c cells slots Q D dA ad (zl mi) (pc, L, st, σ) := by
  intro H locs ls hL hst hM hh hP hS
  have e : (Int8.ofInt n).toInt32 = Int32.ofInt n := by
    rw [← Int32.toInt_inj, Int8.toInt_toInt32, Int8.toInt_ofInt_of_le (by omega) (by omega), zto32 ⟨by omega, by omega⟩]
  exact lv_bipush hx hb hd e (k H locs ls hL (zok_push (show zi32 n from ⟨by omega, by omega⟩) hst) hM hh hP hS)

theorem zo_sipush {mi pc : Nat} {L st : List zV} {σ : zM} (hx : p.tables.exec = Jvm.exec) (hb : c.code = zb mi) (hml : c.maxLocals = zl mi) (hown : s.vm.findClass (zR (zown mi)) = some m.cls) (hts : ∀ w ∈ zGT, w.before args s = true) (hE : zEnv D dA ad s s.heap) {n : Int} (hd : decode (zb mi) pc = .ok (.sipush n, 3)) (hn : -32768 ≤ n ∧ n < 32768) (k : zWX p l e R s m args below meth c cells slots Q D dA ad (zl mi) (pc + 3, L, vI n :: st, σ)) : zWX p l e R s m args below meth c cells slots Q D dA ad (zl mi) (pc, L, st, σ) := by
  intro H locs ls hL hst hM hh hP hS
  have e : (Int16.ofInt n).toInt32 = Int32.ofInt n := by
    rw [← Int32.toInt_inj, Int16.toInt_toInt32, Int16.toInt_ofInt_of_le (by omega) (by omega), zto32 ⟨by omega, by omega⟩]
  exact lv_sipush hx hb hd e (k H locs ls hL (zok_push (show zi32 n from ⟨by omega, by omega⟩) hst) hM hh hP hS)

theorem zo_ldc {mi pc : Nat} {L st : List zV} {σ : zM} (hx : p.tables.exec = Jvm.exec) (hb : c.code = zb mi) (hml : c.maxLocals = zl mi) (hown : s.vm.findClass (zR (zown mi)) = some m.cls) (hts : ∀ w ∈ zGT, w.before args s = true) (hE : zEnv D dA ad s s.heap) {i : Nat} {z : Int} (hd : decode (zb mi) pc = .ok (.ldc i, 2)) (hz : (zown mi, i, z) ∈ zcst) (k : zWX p l e R s m args below meth c cells slots Q D dA ad (zl mi) (pc + 2, L, vI z :: st, σ)) : zWX p l e R s m args below meth c cells slots Q D dA ad (zl mi) (pc, L, st, σ) := by
  intro H locs ls hL hst hM hh hP hS
  obtain ⟨h1, h2⟩ := zkok _ hz
  exact lv_ldc hx hb hown (hts _ h1) hd (k H locs ls hL (zok_push (show zi32 z from h2) hst) hM hh hP hS)

theorem zo_ldcw {mi pc : Nat} {L st : List zV} {σ : zM} (hx : p.tables.exec = Jvm.exec) (hb : c.code = zb mi) (hml : c.maxLocals = zl mi) (hown : s.vm.findClass (zR (zown mi)) = some m.cls) (hts : ∀ w ∈ zGT, w.before args s = true) (hE : zEnv D dA ad s s.heap) {i : Nat} {z : Int} (hd : decode (zb mi) pc = .ok (.ldc_w i, 3)) (hz : (zown mi, i, z) ∈ zcst) (k : zWX p l e R s m args below meth c cells slots Q D dA ad (zl mi) (pc + 3, L, vI z :: st, σ)) : zWX p l e R s m args below meth c cells slots Q D dA ad (zl mi) (pc, L, st, σ) := by
  intro H locs ls hL hst hM hh hP hS
  obtain ⟨h1, h2⟩ := zkok _ hz
  exact lv_ldcw hx hb hown (hts _ h1) hd (k H locs ls hL (zok_push (show zi32 z from h2) hst) hM hh hP hS)

theorem zo_lconst {mi pc : Nat} {L st : List zV} {σ : zM} (hx : p.tables.exec = Jvm.exec) (hb : c.code = zb mi) (hml : c.maxLocals = zl mi) (hown : s.vm.findClass (zR (zown mi)) = some m.cls) (hts : ∀ w ∈ zGT, w.before args s = true) (hE : zEnv D dA ad s s.heap) {n : Fin 2} (hd : decode (zb mi) pc = .ok (.lconst n, 1)) (k : zWX p l e R s m args below meth c cells slots Q D dA ad (zl mi) (pc + 1, L, vL ((n : Nat) : Int) :: st, σ)) : zWX p l e R s m args below meth c cells slots Q D dA ad (zl mi) (pc, L, st, σ) := by
  intro H locs ls hL hst hM hh hP hS
  have hn : ((n : Nat) : Int) < 2 := by have := n.2; omega
  exact lv_lconst hx hb hd (show Int64.ofNat (n : Nat) = Int64.ofInt ((n : Nat) : Int) from rfl) (k H locs ls hL (zok_push (show zi64 _ from ⟨by omega, by omega⟩) hst) hM hh hP hS)

theorem zo_ldc2 {mi pc : Nat} {L st : List zV} {σ : zM} (hx : p.tables.exec = Jvm.exec) (hb : c.code = zb mi) (hml : c.maxLocals = zl mi) (hown : s.vm.findClass (zR (zown mi)) = some m.cls) (hts : ∀ w ∈ zGT, w.before args s = true) (hE : zEnv D dA ad s s.heap) {i : Nat} {z : Int} (hd : decode (zb mi) pc = .ok (.ldc2_w i, 3)) (hz : (zown mi, i, z) ∈ zcstl) (k : zWX p l e R s m args below meth c cells slots Q D dA ad (zl mi) (pc + 3, L, vL z :: st, σ)) : zWX p l e R s m args below meth c cells slots Q D dA ad (zl mi) (pc, L, st, σ) := by
  intro H locs ls hL hst hM hh hP hS
  obtain ⟨h1, h2⟩ := zklok _ hz
  exact lv_ldc2 hx hb hown (hts _ h1) hd (k H locs ls hL (zok_push (show zi64 z from h2) hst) hM hh hP hS)

theorem zo_iload_n {mi pc : Nat} {L st : List zV} {σ : zM} (hx : p.tables.exec = Jvm.exec) (hb : c.code = zb mi) (hml : c.maxLocals = zl mi) (hown : s.vm.findClass (zR (zown mi)) = some m.cls) (hts : ∀ w ∈ zGT, w.before args s = true) (hE : zEnv D dA ad s s.heap) {x : Int} {k0 : Fin 4} (hd : decode (zb mi) pc = .ok (.iload_n k0, 1)) (hx1 : L[(k0 : Nat)]? = some (.inl x)) (k : zWX p l e R s m args below meth c cells slots Q D dA ad (zl mi) (pc + 1, L, .inl x :: st, σ)) : zWX p l e R s m args below meth c cells slots Q D dA ad (zl mi) (pc, L, st, σ) := by
  intro H locs ls hL hst hM hh hP hS
  exact lv_iload_n hx hb hd rfl (zlc_at hh hx1 (by simp)) (k H locs ls hL (zok_push (zok_at hL hx1) hst) hM hh hP hS)

theorem zo_iload {mi pc : Nat} {L st : List zV} {σ : zM} (hx : p.tables.exec = Jvm.exec) (hb : c.code = zb mi) (hml : c.maxLocals = zl mi) (hown : s.vm.findClass (zR (zown mi)) = some m.cls) (hts : ∀ w ∈ zGT, w.before args s = true) (hE : zEnv D dA ad s s.heap) {x : Int} {i : Nat} (hd : decode (zb mi) pc = .ok (.iload i, 2)) (hx1 : L[i]? = some (.inl x)) (k : zWX p l e R s m args below meth c cells slots Q D dA ad (zl mi) (pc + 2, L, .inl x :: st, σ)) : zWX p l e R s m args below meth c cells slots Q D dA ad (zl mi) (pc, L, st, σ) := by
  intro H locs ls hL hst hM hh hP hS
  exact lv_iload hx hb hd (zlc_at hh hx1 (by simp)) (k H locs ls hL (zok_push (zok_at hL hx1) hst) hM hh hP hS)

theorem zo_lload_n {mi pc : Nat} {L st : List zV} {σ : zM} (hx : p.tables.exec = Jvm.exec) (hb : c.code = zb mi) (hml : c.maxLocals = zl mi) (hown : s.vm.findClass (zR (zown mi)) = some m.cls) (hts : ∀ w ∈ zGT, w.before args s = true) (hE : zEnv D dA ad s s.heap) {x : Int} {k0 : Fin 4} (hd : decode (zb mi) pc = .ok (.lload_n k0, 1)) (hx1 : L[(k0 : Nat)]? = some (.inr (.inl x))) (k : zWX p l e R s m args below meth c cells slots Q D dA ad (zl mi) (pc + 1, L, .inr (.inl x) :: st, σ)) : zWX p l e R s m args below meth c cells slots Q D dA ad (zl mi) (pc, L, st, σ) := by
  intro H locs ls hL hst hM hh hP hS
  exact lv_lload_n hx hb hd rfl (zlc_at hh hx1 (by simp)) (k H locs ls hL (zok_push (zok_at hL hx1) hst) hM hh hP hS)

theorem zo_lload {mi pc : Nat} {L st : List zV} {σ : zM} (hx : p.tables.exec = Jvm.exec) (hb : c.code = zb mi) (hml : c.maxLocals = zl mi) (hown : s.vm.findClass (zR (zown mi)) = some m.cls) (hts : ∀ w ∈ zGT, w.before args s = true) (hE : zEnv D dA ad s s.heap) {x : Int} {i : Nat} (hd : decode (zb mi) pc = .ok (.lload i, 2)) (hx1 : L[i]? = some (.inr (.inl x))) (k : zWX p l e R s m args below meth c cells slots Q D dA ad (zl mi) (pc + 2, L, .inr (.inl x) :: st, σ)) : zWX p l e R s m args below meth c cells slots Q D dA ad (zl mi) (pc, L, st, σ) := by
  intro H locs ls hL hst hM hh hP hS
  exact lv_lload hx hb hd (zlc_at hh hx1 (by simp)) (k H locs ls hL (zok_push (zok_at hL hx1) hst) hM hh hP hS)

theorem zo_aload_n {mi pc : Nat} {L st : List zV} {σ : zM} (hx : p.tables.exec = Jvm.exec) (hb : c.code = zb mi) (hml : c.maxLocals = zl mi) (hown : s.vm.findClass (zR (zown mi)) = some m.cls) (hts : ∀ w ∈ zGT, w.before args s = true) (hE : zEnv D dA ad s s.heap) {q : Nat} {k0 : Fin 4} (hd : decode (zb mi) pc = .ok (.aload_n k0, 1)) (hx1 : L[(k0 : Nat)]? = some (.inr (.inr (.inl q)))) (k : zWX p l e R s m args below meth c cells slots Q D dA ad (zl mi) (pc + 1, L, .inr (.inr (.inl q)) :: st, σ)) : zWX p l e R s m args below meth c cells slots Q D dA ad (zl mi) (pc, L, st, σ) := by
  intro H locs ls hL hst hM hh hP hS
  exact lv_aload_n hx hb hd rfl (zlc_at hh hx1 (by simp)) (k H locs ls hL (zok_push trivial hst) hM hh hP hS)

theorem zo_aload_nN {mi pc : Nat} {L st : List zV} {σ : zM} (hx : p.tables.exec = Jvm.exec) (hb : c.code = zb mi) (hml : c.maxLocals = zl mi) (hown : s.vm.findClass (zR (zown mi)) = some m.cls) (hts : ∀ w ∈ zGT, w.before args s = true) (hE : zEnv D dA ad s s.heap) {k0 : Fin 4} (hd : decode (zb mi) pc = .ok (.aload_n k0, 1)) (hx1 : L[(k0 : Nat)]? = some vN) (k : zWX p l e R s m args below meth c cells slots Q D dA ad (zl mi) (pc + 1, L, vN :: st, σ)) : zWX p l e R s m args below meth c cells slots Q D dA ad (zl mi) (pc, L, st, σ) := by
  intro H locs ls hL hst hM hh hP hS
  exact lv_aload_nN hx hb hd rfl (zlc_at (v := vN) hh hx1 (by simp)) (k H locs ls hL (zok_push trivial hst) hM hh hP hS)

theorem zo_aload {mi pc : Nat} {L st : List zV} {σ : zM} (hx : p.tables.exec = Jvm.exec) (hb : c.code = zb mi) (hml : c.maxLocals = zl mi) (hown : s.vm.findClass (zR (zown mi)) = some m.cls) (hts : ∀ w ∈ zGT, w.before args s = true) (hE : zEnv D dA ad s s.heap) {q : Nat} {i : Nat} (hd : decode (zb mi) pc = .ok (.aload i, 2)) (hx1 : L[i]? = some (.inr (.inr (.inl q)))) (k : zWX p l e R s m args below meth c cells slots Q D dA ad (zl mi) (pc + 2, L, .inr (.inr (.inl q)) :: st, σ)) : zWX p l e R s m args below meth c cells slots Q D dA ad (zl mi) (pc, L, st, σ) := by
  intro H locs ls hL hst hM hh hP hS
  exact lv_aload hx hb hd (zlc_at hh hx1 (by simp)) (k H locs ls hL (zok_push trivial hst) hM hh hP hS)

theorem zo_aloadN {mi pc : Nat} {L st : List zV} {σ : zM} (hx : p.tables.exec = Jvm.exec) (hb : c.code = zb mi) (hml : c.maxLocals = zl mi) (hown : s.vm.findClass (zR (zown mi)) = some m.cls) (hts : ∀ w ∈ zGT, w.before args s = true) (hE : zEnv D dA ad s s.heap) {i : Nat} (hd : decode (zb mi) pc = .ok (.aload i, 2)) (hx1 : L[i]? = some vN) (k : zWX p l e R s m args below meth c cells slots Q D dA ad (zl mi) (pc + 2, L, vN :: st, σ)) : zWX p l e R s m args below meth c cells slots Q D dA ad (zl mi) (pc, L, st, σ) := by
  intro H locs ls hL hst hM hh hP hS
  exact lv_aloadN hx hb hd (zlc_at (v := vN) hh hx1 (by simp)) (k H locs ls hL (zok_push trivial hst) hM hh hP hS)

theorem zo_istore_n {mi pc : Nat} {L st : List zV} {σ : zM} (hx : p.tables.exec = Jvm.exec) (hb : c.code = zb mi) (hml : c.maxLocals = zl mi) (hown : s.vm.findClass (zR (zown mi)) = some m.cls) (hts : ∀ w ∈ zGT, w.before args s = true) (hE : zEnv D dA ad s s.heap) {x : Int} {k0 : Fin 4} (hd : decode (zb mi) pc = .ok (.istore_n k0, 1)) (hn : (k0 : Nat) < zl mi) (k : zWX p l e R s m args below meth c cells slots Q D dA ad (zl mi) (pc + 1, zst1 (k0 : Nat) (.inl x) L, st, σ)) : zWX p l e R s m args below meth c cells slots Q D dA ad (zl mi) (pc, L, .inl x :: st, σ) := by
  intro H locs ls hL hst hM hh hP hS
  exact lv_istore_n hx hb hd rfl hh hn rfl (fun ls1 h1 => k H locs ls1 (zst1_ok hL (hst _ List.mem_cons_self)) (fun w hw => hst w (List.mem_cons_of_mem _ hw)) hM (zst1_has (v := .inl x) h1) hP hS)

theorem zo_astore_n {mi pc : Nat} {L st : List zV} {σ : zM} (hx : p.tables.exec = Jvm.exec) (hb : c.code = zb mi) (hml : c.maxLocals = zl mi) (hown : s.vm.findClass (zR (zown mi)) = some m.cls) (hts : ∀ w ∈ zGT, w.before args s = true) (hE : zEnv D dA ad s s.heap) {q : Nat} {k0 : Fin 4} (hd : decode (zb mi) pc = .ok (.astore_n k0, 1)) (hn : (k0 : Nat) < zl mi) (k : zWX p l e R s m args below meth c cells slots Q D dA ad (zl mi) (pc + 1, zst1 (k0 : Nat) (.inr (.inr (.inl q))) L, st, σ)) : zWX p l e R s m args below meth c cells slots Q D dA ad (zl mi) (pc, L, .inr (.inr (.inl q)) :: st, σ) := by
  intro H locs ls hL hst hM hh hP hS
  exact lv_astore_n hx hb hd rfl hh hn rfl (fun ls1 h1 => k H locs ls1 (zst1_ok hL trivial) (fun w hw => hst w (List.mem_cons_of_mem _ hw)) hM (zst1_has (v := .inr (.inr (.inl q))) h1) hP hS)

theorem zo_astore_nN {mi pc : Nat} {L st : List zV} {σ : zM} (hx : p.tables.exec = Jvm.exec) (hb : c.code = zb mi) (hml : c.maxLocals = zl mi) (hown : s.vm.findClass (zR (zown mi)) = some m.cls) (hts : ∀ w ∈ zGT, w.before args s = true) (hE : zEnv D dA ad s s.heap) {k0 : Fin 4} (hd : decode (zb mi) pc = .ok (.astore_n k0, 1)) (hn : (k0 : Nat) < zl mi) (k : zWX p l e R s m args below meth c cells slots Q D dA ad (zl mi) (pc + 1, zst1 (k0 : Nat) vN L, st, σ)) : zWX p l e R s m args below meth c cells slots Q D dA ad (zl mi) (pc, L, vN :: st, σ) := by
  intro H locs ls hL hst hM hh hP hS
  exact lv_astore_nN hx hb hd rfl hh hn rfl (fun ls1 h1 => k H locs ls1 (zst1_ok hL trivial) (fun w hw => hst w (List.mem_cons_of_mem _ hw)) hM (zst1_has (v := vN) h1) hP hS)

theorem zo_lstore_n {mi pc : Nat} {L st : List zV} {σ : zM} (hx : p.tables.exec = Jvm.exec) (hb : c.code = zb mi) (hml : c.maxLocals = zl mi) (hown : s.vm.findClass (zR (zown mi)) = some m.cls) (hts : ∀ w ∈ zGT, w.before args s = true) (hE : zEnv D dA ad s s.heap) {x : Int} {k0 : Fin 4} (hd : decode (zb mi) pc = .ok (.lstore_n k0, 1)) (hn : (k0 : Nat) + 1 < zl mi) (k : zWX p l e R s m args below meth c cells slots Q D dA ad (zl mi) (pc + 1, zst2 (k0 : Nat) (.inr (.inl x)) L, st, σ)) : zWX p l e R s m args below meth c cells slots Q D dA ad (zl mi) (pc, L, .inr (.inl x) :: st, σ) := by
  intro H locs ls hL hst hM hh hP hS
  exact lv_lstore_n hx hb hd rfl hh hn rfl (fun ls1 h1 => k H locs ls1 (zst1_ok (zst1_ok hL trivial) (hst _ List.mem_cons_self)) (fun w hw => hst w (List.mem_cons_of_mem _ hw)) hM (zst2_has h1) hP hS)

theorem zo_istore {mi pc : Nat} {L st : List zV} {σ : zM} (hx : p.tables.exec = Jvm.exec) (hb : c.code = zb mi) (hml : c.maxLocals = zl mi) (hown : s.vm.findClass (zR (zown mi)) = some m.cls) (hts : ∀ w ∈ zGT, w.before args s = true) (hE : zEnv D dA ad s s.heap) {x : Int} {i : Nat} (hd : decode (zb mi) pc = .ok (.istore i, 2)) (hn : i < zl mi) (k : zWX p l e R s m args below meth c cells slots Q D dA ad (zl mi) (pc + 2, zst1 i (.inl x) L, st, σ)) : zWX p l e R s m args below meth c cells slots Q D dA ad (zl mi) (pc, L, .inl x :: st, σ) := by
  intro H locs ls hL hst hM hh hP hS
  exact lv_istore hx hb hd hh hn rfl (fun ls1 h1 => k H locs ls1 (zst1_ok hL (hst _ List.mem_cons_self)) (fun w hw => hst w (List.mem_cons_of_mem _ hw)) hM (zst1_has (v := .inl x) h1) hP hS)

theorem zo_astore {mi pc : Nat} {L st : List zV} {σ : zM} (hx : p.tables.exec = Jvm.exec) (hb : c.code = zb mi) (hml : c.maxLocals = zl mi) (hown : s.vm.findClass (zR (zown mi)) = some m.cls) (hts : ∀ w ∈ zGT, w.before args s = true) (hE : zEnv D dA ad s s.heap) {q : Nat} {i : Nat} (hd : decode (zb mi) pc = .ok (.astore i, 2)) (hn : i < zl mi) (k : zWX p l e R s m args below meth c cells slots Q D dA ad (zl mi) (pc + 2, zst1 i (.inr (.inr (.inl q))) L, st, σ)) : zWX p l e R s m args below meth c cells slots Q D dA ad (zl mi) (pc, L, .inr (.inr (.inl q)) :: st, σ) := by
  intro H locs ls hL hst hM hh hP hS
  exact lv_astore hx hb hd hh hn rfl (fun ls1 h1 => k H locs ls1 (zst1_ok hL trivial) (fun w hw => hst w (List.mem_cons_of_mem _ hw)) hM (zst1_has (v := .inr (.inr (.inl q))) h1) hP hS)

theorem zo_astoreN {mi pc : Nat} {L st : List zV} {σ : zM} (hx : p.tables.exec = Jvm.exec) (hb : c.code = zb mi) (hml : c.maxLocals = zl mi) (hown : s.vm.findClass (zR (zown mi)) = some m.cls) (hts : ∀ w ∈ zGT, w.before args s = true) (hE : zEnv D dA ad s s.heap) {i : Nat} (hd : decode (zb mi) pc = .ok (.astore i, 2)) (hn : i < zl mi) (k : zWX p l e R s m args below meth c cells slots Q D dA ad (zl mi) (pc + 2, zst1 i vN L, st, σ)) : zWX p l e R s m args below meth c cells slots Q D dA ad (zl mi) (pc, L, vN :: st, σ) := by
  intro H locs ls hL hst hM hh hP hS
  exact lv_astoreN hx hb hd hh hn rfl (fun ls1 h1 => k H locs ls1 (zst1_ok hL trivial) (fun w hw => hst w (List.mem_cons_of_mem _ hw)) hM (zst1_has (v := vN) h1) hP hS)

theorem zo_lstore {mi pc : Nat} {L st : List zV} {σ : zM} (hx : p.tables.exec = Jvm.exec) (hb : c.code = zb mi) (hml : c.maxLocals = zl mi) (hown : s.vm.findClass (zR (zown mi)) = some m.cls) (hts : ∀ w ∈ zGT, w.before args s = true) (hE : zEnv D dA ad s s.heap) {x : Int} {i : Nat} (hd : decode (zb mi) pc = .ok (.lstore i, 2)) (hn : i + 1 < zl mi) (k : zWX p l e R s m args below meth c cells slots Q D dA ad (zl mi) (pc + 2, zst2 i (.inr (.inl x)) L, st, σ)) : zWX p l e R s m args below meth c cells slots Q D dA ad (zl mi) (pc, L, .inr (.inl x) :: st, σ) := by
  intro H locs ls hL hst hM hh hP hS
  exact lv_lstore hx hb hd hh hn rfl (fun ls1 h1 => k H locs ls1 (zst1_ok (zst1_ok hL trivial) (hst _ List.mem_cons_self)) (fun w hw => hst w (List.mem_cons_of_mem _ hw)) hM (zst2_has h1) hP hS)

theorem zo_iinc {mi pc : Nat} {L st : List zV} {σ : zM} (hx : p.tables.exec = Jvm.exec) (hb : c.code = zb mi) (hml : c.maxLocals = zl mi) (hown : s.vm.findClass (zR (zown mi)) = some m.cls) (hts : ∀ w ∈ zGT, w.before args s = true) (hE : zEnv D dA ad s s.heap) {x z : Int} {i : Nat} (hd : decode (zb mi) pc = .ok (.iinc i z, 3)) (hx1 : L[i]? = some (.inl x)) (hn : i < zl mi) (k : zWX p l e R s m args below meth c cells slots Q D dA ad (zl mi) (pc + 3, zst1 i (.inl (zbin 0 x z)) L, st, σ)) : zWX p l e R s m args below meth c cells slots Q D dA ad (zl mi) (pc, L, st, σ) := by
  intro H locs ls hL hst hM hh hP hS
  obtain ⟨k0, hk0⟩ := List.getElem?_of_mem ((zlc_mem (ad := ad) L 0 (i, zcv ad (.inl x))).mpr ⟨i, .inl x, hx1, by simp, by simp⟩)
  exact lv_iinc (v := Int32.ofInt (zbin 0 x z)) hx hb hd hh hk0 (show Int32.ofInt x + Int32.ofInt z = _ from (Int32.ofInt_toInt _).symm) hn rfl (fun ls1 h1 => k H locs ls1 (zst1_ok hL (zbin_ok 0 x z)) hst hM (zst1_has (v := .inl (zbin 0 x z)) h1) hP hS)

theorem zo_iadd {mi pc : Nat} {L st : List zV} {σ : zM} (hx : p.tables.exec = Jvm.exec) (hb : c.code = zb mi) (hml : c.maxLocals = zl mi) (hown : s.vm.findClass (zR (zown mi)) = some m.cls) (hts : ∀ w ∈ zGT, w.before args s = true) (hE : zEnv D dA ad s s.heap) {x y : Int} (hd : decode (zb mi) pc = .ok (.iadd, 1)) (k : zWX p l e R s m args below meth c cells slots Q D dA ad (zl mi) (pc + 1, L, vI (zbin 0 x y) :: st, σ)) : zWX p l e R s m args below meth c cells slots Q D dA ad (zl mi) (pc, L, .inl y :: .inl x :: st, σ) := by
  intro H locs ls hL hst hM hh hP hS
  refine lv_iadd hx hb hd ?_
  have k2 := k H locs ls hL (zok_push (zbin_ok _ _ _) (fun w hw => hst w (List.mem_cons_of_mem _ (List.mem_cons_of_mem _ hw)))) hM hh hP hS
  simp only [List.map_cons, zcv, zbin, Int32.ofInt_toInt] at k2
  exact k2

theorem zo_isub {mi pc : Nat} {L st : List zV} {σ : zM} (hx : p.tables.exec = Jvm.exec) (hb : c.code = zb mi) (hml : c.maxLocals = zl mi) (hown : s.vm.findClass (zR (zown mi)) = some m.cls) (hts : ∀ w ∈ zGT, w.before args s = true) (hE : zEnv D dA ad s s.heap) {x y : Int} (hd : decode (zb mi) pc = .ok (.isub, 1)) (k : zWX p l e R s m args below meth c cells slots Q D dA ad (zl mi) (pc + 1, L, vI (zbin 1 x y) :: st, σ)) : zWX p l e R s m args below meth c cells slots Q D dA ad (zl mi) (pc, L, .inl y :: .inl x :: st, σ) := by
  intro H locs ls hL hst hM hh hP hS
  refine lv_isub hx hb hd ?_
  have k2 := k H locs ls hL (zok_push (zbin_ok _ _ _) (fun w hw => hst w (List.mem_cons_of_mem _ (List.mem_cons_of_mem _ hw)))) hM hh hP hS
  simp only [List.map_cons, zcv, zbin, Int32.ofInt_toInt] at k2
  exact k2

theorem zo_imul {mi pc : Nat} {L st : List zV} {σ : zM} (hx : p.tables.exec = Jvm.exec) (hb : c.code = zb mi) (hml : c.maxLocals = zl mi) (hown : s.vm.findClass (zR (zown mi)) = some m.cls) (hts : ∀ w ∈ zGT, w.before args s = true) (hE : zEnv D dA ad s s.heap) {x y : Int} (hd : decode (zb mi) pc = .ok (.imul, 1)) (k : zWX p l e R s m args below meth c cells slots Q D dA ad (zl mi) (pc + 1, L, vI (zbin 2 x y) :: st, σ)) : zWX p l e R s m args below meth c cells slots Q D dA ad (zl mi) (pc, L, .inl y :: .inl x :: st, σ) := by
  intro H locs ls hL hst hM hh hP hS
  refine lv_imul hx hb hd ?_
  have k2 := k H locs ls hL (zok_push (zbin_ok _ _ _) (fun w hw => hst w (List.mem_cons_of_mem _ (List.mem_cons_of_mem _ hw)))) hM hh hP hS
  simp only [List.map_cons, zcv, zbin, Int32.ofInt_toInt] at k2
  exact k2

theorem zo_iand {mi pc : Nat} {L st : List zV} {σ : zM} (hx : p.tables.exec = Jvm.exec) (hb : c.code = zb mi) (hml : c.maxLocals = zl mi) (hown : s.vm.findClass (zR (zown mi)) = some m.cls) (hts : ∀ w ∈ zGT, w.before args s = true) (hE : zEnv D dA ad s s.heap) {x y : Int} (hd : decode (zb mi) pc = .ok (.iand, 1)) (k : zWX p l e R s m args below meth c cells slots Q D dA ad (zl mi) (pc + 1, L, vI (zbin 3 x y) :: st, σ)) : zWX p l e R s m args below meth c cells slots Q D dA ad (zl mi) (pc, L, .inl y :: .inl x :: st, σ) := by
  intro H locs ls hL hst hM hh hP hS
  refine lv_iand hx hb hd ?_
  have k2 := k H locs ls hL (zok_push (zbin_ok _ _ _) (fun w hw => hst w (List.mem_cons_of_mem _ (List.mem_cons_of_mem _ hw)))) hM hh hP hS
  simp only [List.map_cons, zcv, zbin, Int32.ofInt_toInt] at k2
  exact k2

theorem zo_ior {mi pc : Nat} {L st : List zV} {σ : zM} (hx : p.tables.exec = Jvm.exec) (hb : c.code = zb mi) (hml : c.maxLocals = zl mi) (hown : s.vm.findClass (zR (zown mi)) = some m.cls) (hts : ∀ w ∈ zGT, w.before args s = true) (hE : zEnv D dA ad s s.heap) {x y : Int} (hd : decode (zb mi) pc = .ok (.ior, 1)) (k : zWX p l e R s m args below meth c cells slots Q D dA ad (zl mi) (pc + 1, L, vI (zbin 4 x y) :: st, σ)) : zWX p l e R s m args below meth c cells slots Q D dA ad (zl mi) (pc, L, .inl y :: .inl x :: st, σ) := by
  intro H locs ls hL hst hM hh hP hS
  refine lv_ior hx hb hd ?_
  have k2 := k H locs ls hL (zok_push (zbin_ok _ _ _) (fun w hw => hst w (List.mem_cons_of_mem _ (List.mem_cons_of_mem _ hw)))) hM hh hP hS
  simp only [List.map_cons, zcv, zbin, Int32.ofInt_toInt] at k2
  exact k2

theorem zo_ishl {mi pc : Nat} {L st : List zV} {σ : zM} (hx : p.tables.exec = Jvm.exec) (hb : c.code = zb mi) (hml : c.maxLocals = zl mi) (hown : s.vm.findClass (zR (zown mi)) = some m.cls) (hts : ∀ w ∈ zGT, w.before args s = true) (hE : zEnv D dA ad s s.heap) {x y : Int} (hd : decode (zb mi) pc = .ok (.ishl, 1)) (k : zWX p l e R s m args below meth c cells slots Q D dA ad (zl mi) (pc + 1, L, vI (zbin 5 x y) :: st, σ)) : zWX p l e R s m args below meth c cells slots Q D dA ad (zl mi) (pc, L, .inl y :: .inl x :: st, σ) := by
  intro H locs ls hL hst hM hh hP hS
  refine lv_ishl hx hb hd ?_
  have k2 := k H locs ls hL (zok_push (zbin_ok _ _ _) (fun w hw => hst w (List.mem_cons_of_mem _ (List.mem_cons_of_mem _ hw)))) hM hh hP hS
  simp only [List.map_cons, zcv, zbin, Int32.ofInt_toInt] at k2
  exact k2

theorem zo_ishr {mi pc : Nat} {L st : List zV} {σ : zM} (hx : p.tables.exec = Jvm.exec) (hb : c.code = zb mi) (hml : c.maxLocals = zl mi) (hown : s.vm.findClass (zR (zown mi)) = some m.cls) (hts : ∀ w ∈ zGT, w.before args s = true) (hE : zEnv D dA ad s s.heap) {x y : Int} (hd : decode (zb mi) pc = .ok (.ishr, 1)) (k : zWX p l e R s m args below meth c cells slots Q D dA ad (zl mi) (pc + 1, L, vI (zbin 6 x y) :: st, σ)) : zWX p l e R s m args below meth c cells slots Q D dA ad (zl mi) (pc, L, .inl y :: .inl x :: st, σ) := by
  intro H locs ls hL hst hM hh hP hS
  refine lv_ishr hx hb hd ?_
  have k2 := k H locs ls hL (zok_push (zbin_ok _ _ _) (fun w hw => hst w (List.mem_cons_of_mem _ (List.mem_cons_of_mem _ hw)))) hM hh hP hS
  simp only [List.map_cons, zcv, zbin, Int32.ofInt_toInt] at k2
  exact k2

theorem zo_iushr {mi pc : Nat} {L st : List zV} {σ : zM} (hx : p.tables.exec = Jvm.exec) (hb : c.code = zb mi) (hml : c.maxLocals = zl mi) (hown : s.vm.findClass (zR (zown mi)) = some m.cls) (hts : ∀ w ∈ zGT, w.before args s = true) (hE : zEnv D dA ad s s.heap) {x y : Int} (hd : decode (zb mi) pc = .ok (.iushr, 1)) (k : zWX p l e R s m args below meth c cells slots Q D dA ad (zl mi) (pc + 1, L, vI (zbin 7 x y) :: st, σ)) : zWX p l e R s m args below meth c cells slots Q D dA ad (zl mi) (pc, L, .inl y :: .inl x :: st, σ) := by
  intro H locs ls hL hst hM hh hP hS
  refine lv_iushr hx hb hd rfl ?_
  have k2 := k H locs ls hL (zok_push (zbin_ok _ _ _) (fun w hw => hst w (List.mem_cons_of_mem _ (List.mem_cons_of_mem _ hw)))) hM hh hP hS
  simp only [List.map_cons, zcv, zbin, Int32.ofInt_toInt] at k2
  exact k2

theorem zo_idiv {mi pc : Nat} {L st : List zV} {σ : zM} (hx : p.tables.exec = Jvm.exec) (hb : c.code = zb mi) (hml : c.maxLocals = zl mi) (hown : s.vm.findClass (zR (zown mi)) = some m.cls) (hts : ∀ w ∈ zGT, w.before args s = true) (hE : zEnv D dA ad s s.heap) {x y : Int} (hd : decode (zb mi) pc = .ok (.idiv, 1)) (hy : ¬ y = 0) (k : zWX p l e R s m args below meth c cells slots Q D dA ad (zl mi) (pc + 1, L, vI (zdiv x y) :: st, σ)) : zWX p l e R s m args below meth c cells slots Q D dA ad (zl mi) (pc, L, .inl y :: .inl x :: st, σ) := by
  intro H locs ls hL hst hM hh hP hS
  have hy2 : ¬ Int32.ofInt y = 0 := fun q => hy ((zeq32 (show zi32 y from hst (.inl y) List.mem_cons_self) zi320).mp q)
  refine lv_idiv hx hb hd hy2 ?_
  have k2 := k H locs ls hL (zok_push (zof32 _) (fun w hw => hst w (List.mem_cons_of_mem _ (List.mem_cons_of_mem _ hw)))) hM hh hP hS
  simp only [List.map_cons, zcv, zdiv, Int32.ofInt_toInt] at k2
  exact k2

theorem zo_irem {mi pc : Nat} {L st : List zV} {σ : zM} (hx : p.tables.exec = Jvm.exec) (hb : c.code = zb mi) (hml : c.maxLocals = zl mi) (hown : s.vm.findClass (zR (zown mi)) = some m.cls) (hts : ∀ w ∈ zGT, w.before args s = true) (hE : zEnv D dA ad s s.heap) {x y : Int} (hd : decode (zb mi) pc = .ok (.irem, 1)) (hy : ¬ y = 0) (k : zWX p l e R s m args below meth c cells slots Q D dA ad (zl mi) (pc + 1, L, vI (zrem x y) :: st, σ)) : zWX p l e R s m args below meth c cells slots Q D dA ad (zl mi) (pc, L, .inl y :: .inl x :: st, σ) := by
  intro H locs ls hL hst hM hh hP hS
  have hy2 : ¬ Int32.ofInt y = 0 := fun q => hy ((zeq32 (show zi32 y from hst (.inl y) List.mem_cons_self) zi320).mp q)
  refine lv_irem hx hb hd hy2 ?_
  have k2 := k H locs ls hL (zok_push (zof32 _) (fun w hw => hst w (List.mem_cons_of_mem _ (List.mem_cons_of_mem _ hw)))) hM hh hP hS
  simp only [List.map_cons, zcv, zrem, Int32.ofInt_toInt] at k2
  exact k2

theorem zo_ladd {mi pc : Nat} {L st : List zV} {σ : zM} (hx : p.tables.exec = Jvm.exec) (hb : c.code = zb mi) (hml : c.maxLocals = zl mi) (hown : s.vm.findClass (zR (zown mi)) = some m.cls) (hts : ∀ w ∈ zGT, w.before args s = true) (hE : zEnv D dA ad s s.heap) {x y : Int} (hd : decode (zb mi) pc = .ok (.ladd, 1)) (k : zWX p l e R s m args below meth c cells slots Q D dA ad (zl mi) (pc + 1, L, vL (zlbin 0 x y) :: st, σ)) : zWX p l e R s m args below meth c cells slots Q D dA ad (zl mi) (pc, L, .inr (.inl y) :: .inr (.inl x) :: st, σ) := by
  intro H locs ls hL hst hM hh hP hS
  refine lv_ladd hx hb hd ?_
  have k2 := k H locs ls hL (zok_push (zlbin_ok _ _ _) (fun w hw => hst w (List.mem_cons_of_mem _ (List.mem_cons_of_mem _ hw)))) hM hh hP hS
  simp only [List.map_cons, zcv, zlbin, Int64.ofInt_toInt] at k2
  exact k2

theorem zo_lmul {mi pc : Nat} {L st : List zV} {σ : zM} (hx : p.tables.exec = Jvm.exec) (hb : c.code = zb mi) (hml : c.maxLocals = zl mi) (hown : s.vm.findClass (zR (zown mi)) = some m.cls) (hts : ∀ w ∈ zGT, w.before args s = true) (hE : zEnv D dA ad s s.heap) {x y : Int} (hd : decode (zb mi) pc = .ok (.lmul, 1)) (k : zWX p l e R s m args below meth c cells slots Q D dA ad (zl mi) (pc + 1, L, vL (zlbin 1 x y) :: st, σ)) : zWX p l e R s m args below meth c cells slots Q D dA ad (zl mi) (pc, L, .inr (.inl y) :: .inr (.inl x) :: st, σ) := by
  intro H locs ls hL hst hM hh hP hS
  refine lv_lmul hx hb hd ?_
  have k2 := k H locs ls hL (zok_push (zlbin_ok _ _ _) (fun w hw => hst w (List.mem_cons_of_mem _ (List.mem_cons_of_mem _ hw)))) hM hh hP hS
  simp only [List.map_cons, zcv, zlbin, Int64.ofInt_toInt] at k2
  exact k2

theorem zo_land {mi pc : Nat} {L st : List zV} {σ : zM} (hx : p.tables.exec = Jvm.exec) (hb : c.code = zb mi) (hml : c.maxLocals = zl mi) (hown : s.vm.findClass (zR (zown mi)) = some m.cls) (hts : ∀ w ∈ zGT, w.before args s = true) (hE : zEnv D dA ad s s.heap) {x y : Int} (hd : decode (zb mi) pc = .ok (.land, 1)) (k : zWX p l e R s m args below meth c cells slots Q D dA ad (zl mi) (pc + 1, L, vL (zlbin 2 x y) :: st, σ)) : zWX p l e R s m args below meth c cells slots Q D dA ad (zl mi) (pc, L, .inr (.inl y) :: .inr (.inl x) :: st, σ) := by
  intro H locs ls hL hst hM hh hP hS
  refine lv_land hx hb hd ?_
  have k2 := k H locs ls hL (zok_push (zlbin_ok _ _ _) (fun w hw => hst w (List.mem_cons_of_mem _ (List.mem_cons_of_mem _ hw)))) hM hh hP hS
  simp only [List.map_cons, zcv, zlbin, Int64.ofInt_toInt] at k2
  exact k2

theorem zo_lor {mi pc : Nat} {L st : List zV} {σ : zM} (hx : p.tables.exec = Jvm.exec) (hb : c.code = zb mi) (hml : c.maxLocals = zl mi) (hown : s.vm.findClass (zR (zown mi)) = some m.cls) (hts : ∀ w ∈ zGT, w.before args s = true) (hE : zEnv D dA ad s s.heap) {x y : Int} (hd : decode (zb mi) pc = .ok (.lor, 1)) (k : zWX p l e R s m args below meth c cells slots Q D dA ad (zl mi) (pc + 1, L, vL (zlbin 3 x y) :: st, σ)) : zWX p l e R s m args below meth c cells slots Q D dA ad (zl mi) (pc, L, .inr (.inl y) :: .inr (.inl x) :: st, σ) := by
  intro H locs ls hL hst hM hh hP hS
  refine lv_lor hx hb hd ?_
  have k2 := k H locs ls hL (zok_push (zlbin_ok _ _ _) (fun w hw => hst w (List.mem_cons_of_mem _ (List.mem_cons_of_mem _ hw)))) hM hh hP hS
  simp only [List.map_cons, zcv, zlbin, Int64.ofInt_toInt] at k2
  exact k2

theorem zo_lshl {mi pc : Nat} {L st : List zV} {σ : zM} (hx : p.tables.exec = Jvm.exec) (hb : c.code = zb mi) (hml : c.maxLocals = zl mi) (hown : s.vm.findClass (zR (zown mi)) = some m.cls) (hts : ∀ w ∈ zGT, w.before args s = true) (hE : zEnv D dA ad s s.heap) {x y : Int} (hd : decode (zb mi) pc = .ok (.lshl, 1)) (k : zWX p l e R s m args below meth c cells slots Q D dA ad (zl mi) (pc + 1, L, vL (zlsh 0 x y) :: st, σ)) : zWX p l e R s m args below meth c cells slots Q D dA ad (zl mi) (pc, L, .inl y :: .inr (.inl x) :: st, σ) := by
  intro H locs ls hL hst hM hh hP hS
  refine lv_lshl hx hb hd rfl ?_
  have k2 := k H locs ls hL (zok_push (zlsh_ok _ _ _) (fun w hw => hst w (List.mem_cons_of_mem _ (List.mem_cons_of_mem _ hw)))) hM hh hP hS
  simp only [List.map_cons, zcv, zlsh, Int64.ofInt_toInt] at k2
  exact k2

theorem zo_lshr {mi pc : Nat} {L st : List zV} {σ : zM} (hx : p.tables.exec = Jvm.exec) (hb : c.code = zb mi) (hml : c.maxLocals = zl mi) (hown : s.vm.findClass (zR (zown mi)) = some m.cls) (hts : ∀ w ∈ zGT, w.before args s = true) (hE : zEnv D dA ad s s.heap) {x y : Int} (hd : decode (zb mi) pc = .ok (.lshr, 1)) (k : zWX p l e R s m args below meth c cells slots Q D dA ad (zl mi) (pc + 1, L, vL (zlsh 1 x y) :: st, σ)) : zWX p l e R s m args below meth c cells slots Q D dA ad (zl mi) (pc, L, .inl y :: .inr (.inl x) :: st, σ) := by
  intro H locs ls hL hst hM hh hP hS
  refine lv_lshr hx hb hd rfl ?_
  have k2 := k H locs ls hL (zok_push (zlsh_ok _ _ _) (fun w hw => hst w (List.mem_cons_of_mem _ (List.mem_cons_of_mem _ hw)))) hM hh hP hS
  simp only [List.map_cons, zcv, zlsh, Int64.ofInt_toInt] at k2
  exact k2

theorem zo_i2l {mi pc : Nat} {L st : List zV} {σ : zM} (hx : p.tables.exec = Jvm.exec) (hb : c.code = zb mi) (hml : c.maxLocals = zl mi) (hown : s.vm.findClass (zR (zown mi)) = some m.cls) (hts : ∀ w ∈ zGT, w.before args s = true) (hE : zEnv D dA ad s s.heap) {x : Int} (hd : decode (zb mi) pc = .ok (.i2l, 1)) (k : zWX p l e R s m args below meth c cells slots Q D dA ad (zl mi) (pc + 1, L, vL x :: st, σ)) : zWX p l e R s m args below meth c cells slots Q D dA ad (zl mi) (pc, L, .inl x :: st, σ) := by
  intro H locs ls hL hst hM hh hP hS
  have hx1 : zi32 x := hst (.inl x) List.mem_cons_self
  have e : (Int32.ofInt x).toInt64 = Int64.ofInt x := by rw [← Int64.toInt_inj, Int32.toInt_toInt64, zto32 hx1, zto64 ⟨by have := hx1.1; omega, by have := hx1.2; omega⟩]
  exact lv_i2l hx hb hd e (k H locs ls hL (zok_push (show zi64 x from ⟨by have := hx1.1; omega, by have := hx1.2; omega⟩) (fun w hw => hst w (List.mem_cons_of_mem _ hw))) hM hh hP hS)

theorem zo_l2i {mi pc : Nat} {L st : List zV} {σ : zM} (hx : p.tables.exec = Jvm.exec) (hb : c.code = zb mi) (hml : c.maxLocals = zl mi) (hown : s.vm.findClass (zR (zown mi)) = some m.cls) (hts : ∀ w ∈ zGT, w.before args s = true) (hE : zEnv D dA ad s s.heap) {x : Int} (hd : decode (zb mi) pc = .ok (.l2i, 1)) (k : zWX p l e R s m args below meth c cells slots Q D dA ad (zl mi) (pc + 1, L, vI (Int64.ofInt x).toInt32.toInt :: st, σ)) : zWX p l e R s m args below meth c cells slots Q D dA ad (zl mi) (pc, L, .inr (.inl x) :: st, σ) := by
  intro H locs ls hL hst hM hh hP hS
  have k2 := k H locs ls hL (zok_push (show zi32 _ from zof32 _) (fun w hw => hst w (List.mem_cons_of_mem _ hw))) hM hh hP hS
  simp only [List.map_cons, zcv, Int32.ofInt_toInt] at k2
  exact lv_l2i hx hb hd rfl k2

theorem zo_i2b {mi pc : Nat} {L st : List zV} {σ : zM} (hx : p.tables.exec = Jvm.exec) (hb : c.code = zb mi) (hml : c.maxLocals = zl mi) (hown : s.vm.findClass (zR (zown mi)) = some m.cls) (hts : ∀ w ∈ zGT, w.before args s = true) (hE : zEnv D dA ad s s.heap) {x : Int} (hd : decode (zb mi) pc = .ok (.i2b, 1)) (k : zWX p l e R s m args below meth c cells slots Q D dA ad (zl mi) (pc + 1, L, vI (Int32.ofInt x).toInt8.toInt32.toInt :: st, σ)) : zWX p l e R s m args below meth c cells slots Q D dA ad (zl mi) (pc, L, .inl x :: st, σ) := by
  intro H locs ls hL hst hM hh hP hS
  have k2 := k H locs ls hL (zok_push (show zi32 _ from zof32 _) (fun w hw => hst w (List.mem_cons_of_mem _ hw))) hM hh hP hS
  simp only [List.map_cons, zcv, Int32.ofInt_toInt] at k2
  exact lv_i2b hx hb hd rfl k2

theorem zo_i2s {mi pc : Nat} {L st : List zV} {σ : zM} (hx : p.tables.exec = Jvm.exec) (hb : c.code = zb mi) (hml : c.maxLocals = zl mi) (hown : s.vm.findClass (zR (zown mi)) = some m.cls) (hts : ∀ w ∈ zGT, w.before args s = true) (hE : zEnv D dA ad s s.heap) {x : Int} (hd : decode (zb mi) pc = .ok (.i2s, 1)) (k : zWX p l e R s m args below meth c cells slots Q D dA ad (zl mi) (pc + 1, L, vI (Int32.ofInt x).toInt16.toInt32.toInt :: st, σ)) : zWX p l e R s m args below meth c cells slots Q D dA ad (zl mi) (pc, L, .inl x :: st, σ) := by
  intro H locs ls hL hst hM hh hP hS
  have k2 := k H locs ls hL (zok_push (show zi32 _ from zof32 _) (fun w hw => hst w (List.mem_cons_of_mem _ hw))) hM hh hP hS
  simp only [List.map_cons, zcv, Int32.ofInt_toInt] at k2
  exact lv_i2s hx hb hd rfl k2

theorem zo_i2c {mi pc : Nat} {L st : List zV} {σ : zM} (hx : p.tables.exec = Jvm.exec) (hb : c.code = zb mi) (hml : c.maxLocals = zl mi) (hown : s.vm.findClass (zR (zown mi)) = some m.cls) (hts : ∀ w ∈ zGT, w.before args s = true) (hE : zEnv D dA ad s s.heap) {x : Int} (hd : decode (zb mi) pc = .ok (.i2c, 1)) (k : zWX p l e R s m args below meth c cells slots Q D dA ad (zl mi) (pc + 1, L, vI ((Int32.ofInt x).toUInt32 % 65536).toInt32.toInt :: st, σ)) : zWX p l e R s m args below meth c cells slots Q D dA ad (zl mi) (pc, L, .inl x :: st, σ) := by
  intro H locs ls hL hst hM hh hP hS
  have k2 := k H locs ls hL (zok_push (show zi32 _ from zof32 _) (fun w hw => hst w (List.mem_cons_of_mem _ hw))) hM hh hP hS
  simp only [List.map_cons, zcv, Int32.ofInt_toInt] at k2
  exact lv_i2c hx hb hd rfl k2

theorem zo_lcmp {mi pc : Nat} {L st : List zV} {σ : zM} (hx : p.tables.exec = Jvm.exec) (hb : c.code = zb mi) (hml : c.maxLocals = zl mi) (hown : s.vm.findClass (zR (zown mi)) = some m.cls) (hts : ∀ w ∈ zGT, w.before args s = true) (hE : zEnv D dA ad s s.heap) {x y : Int} (hd : decode (zb mi) pc = .ok (.lcmp, 1)) (k : zWX p l e R s m args below meth c cells slots Q D dA ad (zl mi) (pc + 1, L, vI (zcmp x y) :: st, σ)) : zWX p l e R s m args below meth c cells slots Q D dA ad (zl mi) (pc, L, .inr (.inl y) :: .inr (.inl x) :: st, σ) := by
  intro H locs ls hL hst hM hh hP hS
  have hy1 : zi64 y := hst (.inr (.inl y)) List.mem_cons_self
  have hx1 : zi64 x := hst (.inr (.inl x)) (List.mem_cons_of_mem _ List.mem_cons_self)
  have eL : lg_cmp (Int64.ofInt x) (Int64.ofInt y) = Int32.ofInt (zcmp x y) := by
    unfold lg_cmp zcmp
    have e1 : (Int64.ofInt x > Int64.ofInt y) ↔ y < x := by rw [gt_iff_lt, Int64.lt_iff_toInt_lt, zto64 hx1, zto64 hy1]
    have e2 : (Int64.ofInt x = Int64.ofInt y) ↔ x = y := by rw [← Int64.toInt_inj, zto64 hx1, zto64 hy1]
    simp only [e1, e2]
    by_cases h1 : x < y
    · rw [if_neg (by omega), if_neg (by omega), if_pos h1]; rfl
    · by_cases h2 : x = y
      · rw [if_neg (by omega), if_pos h2, if_neg h1, if_pos h2]; rfl
      · rw [if_pos (by omega), if_neg h1, if_neg h2]; rfl
  refine W.lcmp hx hb hd ?_
  show W p l e R s m args below meth c H locs cells slots Q (F0 m (pc + 1) ls (.int (lg_cmp (Int64.ofInt x) (Int64.ofInt y)) :: st.map (zcv ad)))
  rw [eL]
  exact k H locs ls hL (zok_push (show zi32 (zcmp x y) from by unfold zcmp; split; exact ⟨by decide, by decide⟩; split; exact zi320; exact ⟨by decide, by decide⟩) (fun w hw => hst w (List.mem_cons_of_mem _ (List.mem_cons_of_mem _ hw)))) hM hh hP hS

theorem zo_icmp_eq {mi pc : Nat} {L st : List zV} {σ : zM} (hx : p.tables.exec = Jvm.exec) (hb : c.code = zb mi) (hml : c.maxLocals = zl mi) (hown : s.vm.findClass (zR (zown mi)) = some m.cls) (hts : ∀ w ∈ zGT, w.before args s = true) (hE : zEnv D dA ad s s.heap) {x y o : Int} {b : Nat} (hd : decode (zb mi) pc = .ok (.if_icmp .eq o, 3)) (ht : (pc : Int) + o = (b : Int)) (kt : x = y → zWX p l e R s m args below meth c cells slots Q D dA ad (zl mi) (b, L, st, σ)) (kf : ¬ (x = y) → zWX p l e R s m args below meth c cells slots Q D dA ad (zl mi) (pc + 3, L, st, σ)) : zWX p l e R s m args below meth c cells slots Q D dA ad (zl mi) (pc, L, .inl y :: .inl x :: st, σ) := by
  intro H locs ls hL hst hM hh hP hS
  have hy1 : zi32 y := hst (.inl y) List.mem_cons_self
  have hx1 : zi32 x := hst (.inl x) (List.mem_cons_of_mem _ List.mem_cons_self)
  have hst2 : ∀ w ∈ st, zokV w := fun w hw => hst w (List.mem_cons_of_mem _ (List.mem_cons_of_mem _ hw))
  exact lv_icmp_eq hx hb hd ht (fun q => kt ((zeq32 hx1 hy1).mp q) H locs ls hL hst2 hM hh hP hS) (fun q => kf (fun z => q ((zeq32 hx1 hy1).mpr z)) H locs ls hL hst2 hM hh hP hS)

theorem zo_if_eq {mi pc : Nat} {L st : List zV} {σ : zM} (hx : p.tables.exec = Jvm.exec) (hb : c.code = zb mi) (hml : c.maxLocals = zl mi) (hown : s.vm.findClass (zR (zown mi)) = some m.cls) (hts : ∀ w ∈ zGT, w.before args s = true) (hE : zEnv D dA ad s s.heap) {x o : Int} {b : Nat} (hd : decode (zb mi) pc = .ok (.ifCond .eq o, 3)) (ht : (pc : Int) + o = (b : Int)) (kt : x = 0 → zWX p l e R s m args below meth c cells slots Q D dA ad (zl mi) (b, L, st, σ)) (kf : ¬ (x = 0) → zWX p l e R s m args below meth c cells slots Q D dA ad (zl mi) (pc + 3, L, st, σ)) : zWX p l e R s m args below meth c cells slots Q D dA ad (zl mi) (pc, L, .inl x :: st, σ) := by
  intro H locs ls hL hst hM hh hP hS
  have hy1 : zi32 0 := zi320
  have hx1 : zi32 x := hst (.inl x) List.mem_cons_self
  have hst2 : ∀ w ∈ st, zokV w := fun w hw => hst w (List.mem_cons_of_mem _ hw)
  exact lv_if_eq hx hb hd ht (fun q => kt ((zeq32 hx1 hy1).mp q) H locs ls hL hst2 hM hh hP hS) (fun q => kf (fun z => q ((zeq32 hx1 hy1).mpr z)) H locs ls hL hst2 hM hh hP hS)

theorem zo_icmp_ne {mi pc : Nat} {L st : List zV} {σ : zM} (hx : p.tables.exec = Jvm.exec) (hb : c.code = zb mi) (hml : c.maxLocals = zl mi) (hown : s.vm.findClass (zR (zown mi)) = some m.cls) (hts : ∀ w ∈ zGT, w.before args s = true) (hE : zEnv D dA ad s s.heap) {x y o : Int} {b : Nat} (hd : decode (zb mi) pc = .ok (.if_icmp .ne o, 3)) (ht : (pc : Int) + o = (b : Int)) (kt : ¬ x = y → zWX p l e R s m args below meth c cells slots Q D dA ad (zl mi) (b, L, st, σ)) (kf : ¬ (¬ x = y) → zWX p l e R s m args below meth c cells slots Q D dA ad (zl mi) (pc + 3, L, st, σ)) : zWX p l e R s m args below meth c cells slots Q D dA ad (zl mi) (pc, L, .inl y :: .inl x :: st, σ) := by
  intro H locs ls hL hst hM hh hP hS
  have hy1 : zi32 y := hst (.inl y) List.mem_cons_self
  have hx1 : zi32 x := hst (.inl x) (List.mem_cons_of_mem _ List.mem_cons_self)
  have hst2 : ∀ w ∈ st, zokV w := fun w hw => hst w (List.mem_cons_of_mem _ (List.mem_cons_of_mem _ hw))
  exact lv_icmp_ne hx hb hd ht (fun q => kt ((not_congr (zeq32 hx1 hy1)).mp q) H locs ls hL hst2 hM hh hP hS) (fun q => kf (fun z => z ((zeq32 hx1 hy1).mp q)) H locs ls hL hst2 hM hh hP hS)

theorem zo_if_ne {mi pc : Nat} {L st : List zV} {σ : zM} (hx : p.tables.exec = Jvm.exec) (hb : c.code = zb mi) (hml : c.maxLocals = zl mi) (hown : s.vm.findClass (zR (zown mi)) = some m.cls) (hts : ∀ w ∈ zGT, w.before args s = true) (hE : zEnv D dA ad s s.heap) {x o : Int} {b : Nat} (hd : decode (zb mi) pc = .ok (.ifCond .ne o, 3)) (ht : (pc : Int) + o = (b : Int)) (kt : ¬ x = 0 → zWX p l e R s m args below meth c cells slots Q D dA ad (zl mi) (b, L, st, σ)) (kf : ¬ (¬ x = 0) → zWX p l e R s m args below meth c cells slots Q D dA ad (zl mi) (pc + 3, L, st, σ)) : zWX p l e R s m args below meth c cells slots Q D dA ad (zl mi) (pc, L, .inl x :: st, σ) := by
  intro H locs ls hL hst hM hh hP hS
  have hy1 : zi32 0 := zi320
  have hx1 : zi32 x := hst (.inl x) List.mem_cons_self
  have hst2 : ∀ w ∈ st, zokV w := fun w hw => hst w (List.mem_cons_of_mem _ hw)
  exact lv_if_ne hx hb hd ht (fun q => kt ((not_congr (zeq32 hx1 hy1)).mp q) H locs ls hL hst2 hM hh hP hS) (fun q => kf (fun z => z ((zeq32 hx1 hy1).mp q)) H locs ls hL hst2 hM hh hP hS)

theorem zo_icmp_lt {mi pc : Nat} {L st : List zV} {σ : zM} (hx : p.tables.exec = Jvm.exec) (hb : c.code = zb mi) (hml : c.maxLocals = zl mi) (hown : s.vm.findClass (zR (zown mi)) = some m.cls) (hts : ∀ w ∈ zGT, w.before args s = true) (hE : zEnv D dA ad s s.heap) {x y o : Int} {b : Nat} (hd : decode (zb mi) pc = .ok (.if_icmp .lt o, 3)) (ht : (pc : Int) + o = (b : Int)) (kt : x < y → zWX p l e R s m args below meth c cells slots Q D dA ad (zl mi) (b, L, st, σ)) (kf : ¬ (x < y) → zWX p l e R s m args below meth c cells slots Q D dA ad (zl mi) (pc + 3, L, st, σ)) : zWX p l e R s m args below meth c cells slots Q D dA ad (zl mi) (pc, L, .inl y :: .inl x :: st, σ) := by
  intro H locs ls hL hst hM hh hP hS
  have hy1 : zi32 y := hst (.inl y) List.mem_cons_self
  have hx1 : zi32 x := hst (.inl x) (List.mem_cons_of_mem _ List.mem_cons_self)
  have hst2 : ∀ w ∈ st, zokV w := fun w hw => hst w (List.mem_cons_of_mem _ (List.mem_cons_of_mem _ hw))
  exact lv_icmp_lt hx hb hd ht (fun q => kt ((zlt32 hx1 hy1).mp q) H locs ls hL hst2 hM hh hP hS) (fun q => kf (fun z => q ((zlt32 hx1 hy1).mpr z)) H locs ls hL hst2 hM hh hP hS)

theorem zo_if_lt {mi pc : Nat} {L st : List zV} {σ : zM} (hx : p.tables.exec = Jvm.exec) (hb : c.code = zb mi) (hml : c.maxLocals = zl mi) (hown : s.vm.findClass (zR (zown mi)) = some m.cls) (hts : ∀ w ∈ zGT, w.before args s = true) (hE : zEnv D dA ad s s.heap) {x o : Int} {b : Nat} (hd : decode (zb mi) pc = .ok (.ifCond .lt o, 3)) (ht : (pc : Int) + o = (b : Int)) (kt : x < 0 → zWX p l e R s m args below meth c cells slots Q D dA ad (zl mi) (b, L, st, σ)) (kf : ¬ (x < 0) → zWX p l e R s m args below meth c cells slots Q D dA ad (zl mi) (pc + 3, L, st, σ)) : zWX p l e R s m args below meth c cells slots Q D dA ad (zl mi) (pc, L, .inl x :: st, σ) := by
  intro H locs ls hL hst hM hh hP hS
  have hy1 : zi32 0 := zi320
  have hx1 : zi32 x := hst (.inl x) List.mem_cons_self
  have hst2 : ∀ w ∈ st, zokV w := fun w hw => hst w (List.mem_cons_of_mem _ hw)
  exact lv_if_lt hx hb hd ht (fun q => kt ((zlt32 hx1 hy1).mp q) H locs ls hL hst2 hM hh hP hS) (fun q => kf (fun z => q ((zlt32 hx1 hy1).mpr z)) H locs ls hL hst2 hM hh hP hS)

theorem zo_icmp_ge {mi pc : Nat} {L st : List zV} {σ : zM} (hx : p.tables.exec = Jvm.exec) (hb : c.code = zb mi) (hml : c.maxLocals = zl mi) (hown : s.vm.findClass (zR (zown mi)) = some m.cls) (hts : ∀ w ∈ zGT, w.before args s = true) (hE : zEnv D dA ad s s.heap) {x y o : Int} {b : Nat} (hd : decode (zb mi) pc = .ok (.if_icmp .ge o, 3)) (ht : (pc : Int) + o = (b : Int)) (kt : y ≤ x → zWX p l e R s m args below meth c cells slots Q D dA ad (zl mi) (b, L, st, σ)) (kf : ¬ (y ≤ x) → zWX p l e R s m args below meth c cells slots Q D dA ad (zl mi) (pc + 3, L, st, σ)) : zWX p l e R s m args below meth c cells slots Q D dA ad (zl mi) (pc, L, .inl y :: .inl x :: st, σ) := by
  intro H locs ls hL hst hM hh hP hS
  have hy1 : zi32 y := hst (.inl y) List.mem_cons_self
  have hx1 : zi32 x := hst (.inl x) (List.mem_cons_of_mem _ List.mem_cons_self)
  have hst2 : ∀ w ∈ st, zokV w := fun w hw => hst w (List.mem_cons_of_mem _ (List.mem_cons_of_mem _ hw))
  exact lv_icmp_ge hx hb hd ht (fun q => kt ((zle32 hy1 hx1).mp q) H locs ls hL hst2 hM hh hP hS) (fun q => kf (fun z => q ((zle32 hy1 hx1).mpr z)) H locs ls hL hst2 hM hh hP hS)

theorem zo_if_ge {mi pc : Nat} {L st : List zV} {σ : zM} (hx : p.tables.exec = Jvm.exec) (hb : c.code = zb mi) (hml : c.maxLocals = zl mi) (hown : s.vm.findClass (zR (zown mi)) = some m.cls) (hts : ∀ w ∈ zGT, w.before args s = true) (hE : zEnv D dA ad s s.heap) {x o : Int} {b : Nat} (hd : decode (zb mi) pc = .ok (.ifCond .ge o, 3)) (ht : (pc : Int) + o = (b : Int)) (kt : 0 ≤ x → zWX p l e R s m args below meth c cells slots Q D dA ad (zl mi) (b, L, st, σ)) (kf : ¬ (0 ≤ x) → zWX p l e R s m args below meth c cells slots Q D dA ad (zl mi) (pc + 3, L, st, σ)) : zWX p l e R s m args below meth c cells slots Q D dA ad (zl mi) (pc, L, .inl x :: st, σ) := by
  intro H locs ls hL hst hM hh hP hS
  have hy1 : zi32 0 := zi320
  have hx1 : zi32 x := hst (.inl x) List.mem_cons_self
  have hst2 : ∀ w ∈ st, zokV w := fun w hw => hst w (List.mem_cons_of_mem _ hw)
  exact lv_if_ge hx hb hd ht (fun q => kt ((zle32 hy1 hx1).mp q) H locs ls hL hst2 hM hh hP hS) (fun q => kf (fun z => q ((zle32 hy1 hx1).mpr z)) H locs ls hL hst2 hM hh hP hS)

theorem zo_icmp_gt {mi pc : Nat} {L st : List zV} {σ : zM} (hx : p.tables.exec = Jvm.exec) (hb : c.code = zb mi) (hml : c.maxLocals = zl mi) (hown : s.vm.findClass (zR (zown mi)) = some m.cls) (hts : ∀ w ∈ zGT, w.before args s = true) (hE : zEnv D dA ad s s.heap) {x y o : Int} {b : Nat} (hd : decode (zb mi) pc = .ok (.if_icmp .gt o, 3)) (ht : (pc : Int) + o = (b : Int)) (kt : y < x → zWX p l e R s m args below meth c cells slots Q D dA ad (zl mi) (b, L, st, σ)) (kf : ¬ (y < x) → zWX p l e R s m args below meth c cells slots Q D dA ad (zl mi) (pc + 3, L, st, σ)) : zWX p l e R s m args below meth c cells slots Q D dA ad (zl mi) (pc, L, .inl y :: .inl x :: st, σ) := by
  intro H locs ls hL hst hM hh hP hS
  have hy1 : zi32 y := hst (.inl y) List.mem_cons_self
  have hx1 : zi32 x := hst (.inl x) (List.mem_cons_of_mem _ List.mem_cons_self)
  have hst2 : ∀ w ∈ st, zokV w := fun w hw => hst w (List.mem_cons_of_mem _ (List.mem_cons_of_mem _ hw))
  exact lv_icmp_gt hx hb hd ht (fun q => kt ((zlt32 hy1 hx1).mp q) H locs ls hL hst2 hM hh hP hS) (fun q => kf (fun z => q ((zlt32 hy1 hx1).mpr z)) H locs ls hL hst2 hM hh hP hS)

theorem zo_if_gt {mi pc : Nat} {L st : List zV} {σ : zM} (hx : p.tables.exec = Jvm.exec) (hb : c.code = zb mi) (hml : c.maxLocals = zl mi) (hown : s.vm.findClass (zR (zown mi)) = some m.cls) (hts : ∀ w ∈ zGT, w.before args s = true) (hE : zEnv D dA ad s s.heap) {x o : Int} {b : Nat} (hd : decode (zb mi) pc = .ok (.ifCond .gt o, 3)) (ht : (pc : Int) + o = (b : Int)) (kt : 0 < x → zWX p l e R s m args below meth c cells slots Q D dA ad (zl mi) (b, L, st, σ)) (kf : ¬ (0 < x) → zWX p l e R s m args below meth c cells slots Q D dA ad (zl mi) (pc + 3, L, st, σ)) : zWX p l e R s m args below meth c cells slots Q D dA ad (zl mi) (pc, L, .inl x :: st, σ) := by
  intro H locs ls hL hst hM hh hP hS
  have hy1 : zi32 0 := zi320
  have hx1 : zi32 x := hst (.inl x) List.mem_cons_self
  have hst2 : ∀ w ∈ st, zokV w := fun w hw => hst w (List.mem_cons_of_mem _ hw)
  exact lv_if_gt hx hb hd ht (fun q => kt ((zlt32 hy1 hx1).mp q) H locs ls hL hst2 hM hh hP hS) (fun q => kf (fun z => q ((zlt32 hy1 hx1).mpr z)) H locs ls hL hst2 hM hh hP hS)

theorem zo_icmp_le {mi pc : Nat} {L st : List zV} {σ : zM} (hx : p.tables.exec = Jvm.exec) (hb : c.code = zb mi) (hml : c.maxLocals = zl mi) (hown : s.vm.findClass (zR (zown mi)) = some m.cls) (hts : ∀ w ∈ zGT, w.before args s = true) (hE : zEnv D dA ad s s.heap) {x y o : Int} {b : Nat} (hd : decode (zb mi) pc = .ok (.if_icmp .le o, 3)) (ht : (pc : Int) + o = (b : Int)) (kt : x ≤ y → zWX p l e R s m args below meth c cells slots Q D dA ad (zl mi) (b, L, st, σ)) (kf : ¬ (x ≤ y) → zWX p l e R s m args below meth c cells slots Q D dA ad (zl mi) (pc + 3, L, st, σ)) : zWX p l e R s m args below meth c cells slots Q D dA ad (zl mi) (pc, L, .inl y :: .inl x :: st, σ) := by
  intro H locs ls hL hst hM hh hP hS
  have hy1 : zi32 y := hst (.inl y) List.mem_cons_self
  have hx1 : zi32 x := hst (.inl x) (List.mem_cons_of_mem _ List.mem_cons_self)
  have hst2 : ∀ w ∈ st, zokV w := fun w hw => hst w (List.mem_cons_of_mem _ (List.mem_cons_of_mem _ hw))
  exact lv_icmp_le hx hb hd ht (fun q => kt ((zle32 hx1 hy1).mp q) H locs ls hL hst2 hM hh hP hS) (fun q => kf (fun z => q ((zle32 hx1 hy1).mpr z)) H locs ls hL hst2 hM hh hP hS)

theorem zo_if_le {mi pc : Nat} {L st : List zV} {σ : zM} (hx : p.tables.exec = Jvm.exec) (hb : c.code = zb mi) (hml : c.maxLocals = zl mi) (hown : s.vm.findClass (zR (zown mi)) = some m.cls) (hts : ∀ w ∈ zGT, w.before args s = true) (hE : zEnv D dA ad s s.heap) {x o : Int} {b : Nat} (hd : decode (zb mi) pc = .ok (.ifCond .le o, 3)) (ht : (pc : Int) + o = (b : Int)) (kt : x ≤ 0 → zWX p l e R s m args below meth c cells slots Q D dA ad (zl mi) (b, L, st, σ)) (kf : ¬ (x ≤ 0) → zWX p l e R s m args below meth c cells slots Q D dA ad (zl mi) (pc + 3, L, st, σ)) : zWX p l e R s m args below meth c cells slots Q D dA ad (zl mi) (pc, L, .inl x :: st, σ) := by
  intro H locs ls hL hst hM hh hP hS
  have hy1 : zi32 0 := zi320
  have hx1 : zi32 x := hst (.inl x) List.mem_cons_self
  have hst2 : ∀ w ∈ st, zokV w := fun w hw => hst w (List.mem_cons_of_mem _ hw)
  exact lv_if_le hx hb hd ht (fun q => kt ((zle32 hx1 hy1).mp q) H locs ls hL hst2 hM hh hP hS) (fun q => kf (fun z => q ((zle32 hx1 hy1).mpr z)) H locs ls hL hst2 hM hh hP hS)

theorem zo_ifnull {mi pc : Nat} {L st : List zV} {σ : zM} (hx : p.tables.exec = Jvm.exec) (hb : c.code = zb mi) (hml : c.maxLocals = zl mi) (hown : s.vm.findClass (zR (zown mi)) = some m.cls) (hts : ∀ w ∈ zGT, w.before args s = true) (hE : zEnv D dA ad s s.heap) {q : Nat} {o : Int} (hd : decode (zb mi) pc = .ok (.ifnull o, 3)) (k : zWX p l e R s m args below meth c cells slots Q D dA ad (zl mi) (pc + 3, L, st, σ)) : zWX p l e R s m args below meth c cells slots Q D dA ad (zl mi) (pc, L, .inr (.inr (.inl q)) :: st, σ) := by
  intro H locs ls hL hst hM hh hP hS
  exact lv_ifnull hx hb hd (k H locs ls hL (fun w hw => hst w (List.mem_cons_of_mem _ hw)) hM hh hP hS)

theorem zo_ifnullN {mi pc : Nat} {L st : List zV} {σ : zM} (hx : p.tables.exec = Jvm.exec) (hb : c.code = zb mi) (hml : c.maxLocals = zl mi) (hown : s.vm.findClass (zR (zown mi)) = some m.cls) (hts : ∀ w ∈ zGT, w.before args s = true) (hE : zEnv D dA ad s s.heap) {o : Int} {b : Nat} (hd : decode (zb mi) pc = .ok (.ifnull o, 3)) (ht : (pc : Int) + o = (b : Int)) (k : zWX p l e R s m args below meth c cells slots Q D dA ad (zl mi) (b, L, st, σ)) : zWX p l e R s m args below meth c cells slots Q D dA ad (zl mi) (pc, L, vN :: st, σ) := by
  intro H locs ls hL hst hM hh hP hS
  exact lv_ifnullN hx hb hd ht (k H locs ls hL (fun w hw => hst w (List.mem_cons_of_mem _ hw)) hM hh hP hS)

theorem zo_ifnonnull {mi pc : Nat} {L st : List zV} {σ : zM} (hx : p.tables.exec = Jvm.exec) (hb : c.code = zb mi) (hml : c.maxLocals = zl mi) (hown : s.vm.findClass (zR (zown mi)) = some m.cls) (hts : ∀ w ∈ zGT, w.before args s = true) (hE : zEnv D dA ad s s.heap) {q : Nat} {o : Int} {b : Nat} (hd : decode (zb mi) pc = .ok (.ifnonnull o, 3)) (ht : (pc : Int) + o = (b : Int)) (k : zWX p l e R s m args below meth c cells slots Q D dA ad (zl mi) (b, L, st, σ)) : zWX p l e R s m args below meth c cells slots Q D dA ad (zl mi) (pc, L, .inr (.inr (.inl q)) :: st, σ) := by
  intro H locs ls hL hst hM hh hP hS
  exact lv_ifnonnull hx hb hd ht (k H locs ls hL (fun w hw => hst w (List.mem_cons_of_mem _ hw)) hM hh hP hS)

theorem zo_ifnonnullN {mi pc : Nat} {L st : List zV} {σ : zM} (hx : p.tables.exec = Jvm.exec) (hb : c.code = zb mi) (hml : c.maxLocals = zl mi) (hown : s.vm.findClass (zR (zown mi)) = some m.cls) (hts : ∀ w ∈ zGT, w.before args s = true) (hE : zEnv D dA ad s s.heap) {o : Int} (hd : decode (zb mi) pc = .ok (.ifnonnull o, 3)) (k : zWX p l e R s m args below meth c cells slots Q D dA ad (zl mi) (pc + 3, L, st, σ)) : zWX p l e R s m args below meth c cells slots Q D dA ad (zl mi) (pc, L, vN :: st, σ) := by
  intro H locs ls hL hst hM hh hP hS
  exact lv_ifnonnullN hx hb hd (k H locs ls hL (fun w hw => hst w (List.mem_cons_of_mem _ hw)) hM hh hP hS)

theorem zo_goto {mi pc : Nat} {L st : List zV} {σ : zM} (hx : p.tables.exec = Jvm.exec) (hb : c.code = zb mi) (hml : c.maxLocals = zl mi) (hown : s.vm.findClass (zR (zown mi)) = some m.cls) (hts : ∀ w ∈ zGT, w.before args s = true) (hE : zEnv D dA ad s s.heap) {o : Int} {b : Nat} (hd : decode (zb mi) pc = .ok (.goto o, 3)) (ht : (pc : Int) + o = (b : Int)) (k : zWX p l e R s m args below meth c cells slots Q D dA ad (zl mi) (b, L, st, σ)) : zWX p l e R s m args below meth c cells slots Q D dA ad (zl mi) (pc, L, st, σ) := by
  intro H locs ls hL hst hM hh hP hS
  exact lv_goto hx hb hd ht (k H locs ls hL hst hM hh hP hS)

theorem zo_getfield {mi pc : Nat} {L st : List zV} {σ : zM} (hx : p.tables.exec = Jvm.exec) (hb : c.code = zb mi) (hml : c.maxLocals = zl mi) (hown : s.vm.findClass (zR (zown mi)) = some m.cls) (hts : ∀ w ∈ zGT, w.before args s = true) (hE : zEnv D dA ad s s.heap) {q a b n z : Nat} {v : Value} {w : zV} (hd : decode (zb mi) pc = .ok (.getfield n, 3)) (hf : (zown mi, n, z, a, b) ∈ zfld) (hc : zcls q = a) (hv : zfw ad σ q b = v) (hw : zcv ad w = v) (hok : zokM σ → zokV w) (k : zWX p l e R s m args below meth c cells slots Q D dA ad (zl mi) (pc + 3, L, w :: st, σ)) : zWX p l e R s m args below meth c cells slots Q D dA ad (zl mi) (pc, L, .inr (.inr (.inl q)) :: st, σ) := by
  intro H locs ls hL hst hM hh hP hS
  have hq7 : zcls q < 7 := by rw [hc]; exact (zfok _ hf).1.1
  have hq41 : q < 41 := zcls_lt (by omega) (by omega)
  have he : (zwl dA ad σ)[q]? = some (ad q, .inr (zcls q, (List.range (zNf (zcls q))).map (zfw ad σ q))) := by
    rw [zwl_at hq41]; unfold zcell; rw [if_pos (by omega)]
  obtain ⟨⟨f1, f2, f3⟩, f4, f5⟩ := zfok _ hf
  have hcl : vwCl[zcls q]? = some (zR (zcls q), zT (zcls q), zNf (zcls q)) := by
    rw [hc]; exact zcl_at a f1
  have hk : ((List.range (zNf (zcls q))).map (zfw ad σ q))[b]? = some v := by
    rw [List.getElem?_map, List.getElem?_range (by rw [hc]; exact f2), ← hv]; rfl
  have k2 := k H locs ls hL (zok_push (hok hM) (fun w hw => hst w (List.mem_cons_of_mem _ hw))) hM hh hP hS
  rw [List.map_cons, hw] at k2
  by_cases hz : z = 0
  · exact va_get (Ts := zGT) (C := zR (zcls q)) (T := zT (zcls q)) (N := zNf (zcls q)) (ref := zR (zcls q)) hx hb hts (by rw [hc]; exact zin_all a f1) hown hE.1 hP q he hcl b (by rw [hc]; exact f2) (by rw [hc]; exact hts _ (f4 hz)) (fun x h => by rw [hc] at h ⊢; rw [f3] at h; exact h) hk hd k2
  · obtain ⟨g1, -⟩ := f5 hz
    have hl := hE.2.1.1 _ hf g1
    exact va_getN (Ts := zGT) (C := zR (zcls q)) (T := zT (zcls q)) (N := zNf (zcls q)) (ref := zR (zcls q)) (host := "PaleFence") hx hb hts (by rw [hc]; exact zin_all a f1) hown hE.1 hP q he hcl b (by rw [hc]; exact f2) (by rw [hc]; exact va_Nw.use rfl hl) (fun x h => by rw [hc] at h ⊢; rw [f3] at h; exact h) hk hd k2

theorem zo_putfield {mi pc : Nat} {L st : List zV} {σ : zM} (hx : p.tables.exec = Jvm.exec) (hb : c.code = zb mi) (hml : c.maxLocals = zl mi) (hown : s.vm.findClass (zR (zown mi)) = some m.cls) (hts : ∀ w ∈ zGT, w.before args s = true) (hE : zEnv D dA ad s s.heap) {q a b n z sc : Nat} {x : Int}  (hd : decode (zb mi) pc = .ok (.putfield n, 3)) (hf : (zown mi, n, z, a, b) ∈ zfld) (hc : zcls q = a) (hv : zfv q b = .inl sc) (hty : zty a b = .int) (hfin : (zT a b).2.2.2 = false) (k : zWX p l e R s m args below meth c cells slots Q D dA ad (zl mi) (pc + 3, L, st, zsetS σ sc x)) : zWX p l e R s m args below meth c cells slots Q D dA ad (zl mi) (pc, L, .inl x :: .inr (.inr (.inl q)) :: st, σ) := by
  intro H locs ls hL hst hM hh hP hS
  have hq7 : zcls q < 7 := by rw [hc]; exact (zfok _ hf).1.1
  have hq41 : q < 41 := zcls_lt (by omega) (by omega)
  have he : (zwl dA ad σ)[q]? = some (ad q, .inr (zcls q, (List.range (zNf (zcls q))).map (zfw ad σ q))) := by
    rw [zwl_at hq41]; unfold zcell; rw [if_pos (by omega)]
  obtain ⟨⟨f1, f2, f3⟩, f4, f5⟩ := zfok _ hf
  have hcl : vwCl[zcls q]? = some (zR (zcls q), zT (zcls q), zNf (zcls q)) := by
    rw [hc]; exact zcl_at a f1
  have hx1 : zi32 x := hst (.inl x) List.mem_cons_self
  have hpar : parseFieldDescriptor (zT (zcls q) b).2.2.1 = some .int := by rw [hc, ← hty]; exact zty_ok a f1 b f2
  by_cases hz : z = 0
  · exact va_put (Ts := zGT) (C := zR (zcls q)) (T := zT (zcls q)) (N := zNf (zcls q)) (ref := zR (zcls q)) (v := .int (Int32.ofInt x)) (ty := .int) hx hb hts (by rw [hc]; exact zin_all a f1) (zty (zcls q)) (by rw [hc]; exact zty_ok a f1) (by rw [hc]; exact znm_ok a f1) hown hE.1 hP (zD hE) hS q he hcl b (by rw [hc]; exact f2) (by rw [hc]; exact hts _ (f4 hz)) (fun x h => by rw [hc] at h ⊢; rw [f3] at h; exact h) (by rw [hc]; exact hfin) hpar rfl rfl (by rw [List.length_map, List.length_range, hc]; exact f2) hd
      (fun H1 locs1 hP1 _ hS1 => k H1 locs1 ls hL (fun w hw => hst w (List.mem_cons_of_mem _ (List.mem_cons_of_mem _ hw))) (zokM_S hM hx1) hh (by rw [← zcell_setS hq41 hq7 (by rw [hc]; exact f2) hv]; exact hP1) hS1)
  · obtain ⟨g1, -⟩ := f5 hz
    have hl := hE.2.1.1 _ hf g1
    exact va_putN (Ts := zGT) (C := zR (zcls q)) (T := zT (zcls q)) (N := zNf (zcls q)) (ref := zR (zcls q)) (host := "PaleFence") (v := .int (Int32.ofInt x)) (ty := .int) hx hb hts (by rw [hc]; exact zin_all a f1) (zty (zcls q)) (by rw [hc]; exact zty_ok a f1) (by rw [hc]; exact znm_ok a f1) hown hE.1 hP (zD hE) hS q he hcl b (by rw [hc]; exact f2) (by rw [hc]; exact va_Nw.use rfl hl) (fun x h => by rw [hc] at h ⊢; rw [f3] at h; exact h) (by rw [hc]; exact hfin) hpar rfl rfl (by rw [List.length_map, List.length_range, hc]; exact f2) hd
      (fun H1 locs1 hP1 _ hS1 => k H1 locs1 ls hL (fun w hw => hst w (List.mem_cons_of_mem _ (List.mem_cons_of_mem _ hw))) (zokM_S hM hx1) hh (by rw [← zcell_setS hq41 hq7 (by rw [hc]; exact f2) hv]; exact hP1) hS1)

theorem zo_putfieldZ {mi pc : Nat} {L st : List zV} {σ : zM} (hx : p.tables.exec = Jvm.exec) (hb : c.code = zb mi) (hml : c.maxLocals = zl mi) (hown : s.vm.findClass (zR (zown mi)) = some m.cls) (hts : ∀ w ∈ zGT, w.before args s = true) (hE : zEnv D dA ad s s.heap) {q a b n z sc : Nat} {x : Int} (h01 : x = 0 ∨ x = 1) (hd : decode (zb mi) pc = .ok (.putfield n, 3)) (hf : (zown mi, n, z, a, b) ∈ zfld) (hc : zcls q = a) (hv : zfv q b = .inl sc) (hty : zty a b = .boolean) (hfin : (zT a b).2.2.2 = false) (k : zWX p l e R s m args below meth c cells slots Q D dA ad (zl mi) (pc + 3, L, st, zsetS σ sc x)) : zWX p l e R s m args below meth c cells slots Q D dA ad (zl mi) (pc, L, .inl x :: .inr (.inr (.inl q)) :: st, σ) := by
  intro H locs ls hL hst hM hh hP hS
  have hq7 : zcls q < 7 := by rw [hc]; exact (zfok _ hf).1.1
  have hq41 : q < 41 := zcls_lt (by omega) (by omega)
  have he : (zwl dA ad σ)[q]? = some (ad q, .inr (zcls q, (List.range (zNf (zcls q))).map (zfw ad σ q))) := by
    rw [zwl_at hq41]; unfold zcell; rw [if_pos (by omega)]
  obtain ⟨⟨f1, f2, f3⟩, f4, f5⟩ := zfok _ hf
  have hcl : vwCl[zcls q]? = some (zR (zcls q), zT (zcls q), zNf (zcls q)) := by
    rw [hc]; exact zcl_at a f1
  have hx1 : zi32 x := hst (.inl x) List.mem_cons_self
  have hpar : parseFieldDescriptor (zT (zcls q) b).2.2.1 = some .boolean := by rw [hc, ← hty]; exact zty_ok a f1 b f2
  by_cases hz : z = 0
  · exact va_put (Ts := zGT) (C := zR (zcls q)) (T := zT (zcls q)) (N := zNf (zcls q)) (ref := zR (zcls q)) (v := .int (Int32.ofInt x)) (ty := .boolean) hx hb hts (by rw [hc]; exact zin_all a f1) (zty (zcls q)) (by rw [hc]; exact zty_ok a f1) (by rw [hc]; exact znm_ok a f1) hown hE.1 hP (zD hE) hS q he hcl b (by rw [hc]; exact f2) (by rw [hc]; exact hts _ (f4 hz)) (fun x h => by rw [hc] at h ⊢; rw [f3] at h; exact h) (by rw [hc]; exact hfin) hpar (by rcases h01 with rfl | rfl <;> rfl) (by rcases h01 with rfl | rfl <;> rfl) (by rw [List.length_map, List.length_range, hc]; exact f2) hd
      (fun H1 locs1 hP1 _ hS1 => k H1 locs1 ls hL (fun w hw => hst w (List.mem_cons_of_mem _ (List.mem_cons_of_mem _ hw))) (zokM_S hM hx1) hh (by rw [← zcell_setS hq41 hq7 (by rw [hc]; exact f2) hv]; exact hP1) hS1)
  · obtain ⟨g1, -⟩ := f5 hz
    have hl := hE.2.1.1 _ hf g1
    exact va_putN (Ts := zGT) (C := zR (zcls q)) (T := zT (zcls q)) (N := zNf (zcls q)) (ref := zR (zcls q)) (host := "PaleFence") (v := .int (Int32.ofInt x)) (ty := .boolean) hx hb hts (by rw [hc]; exact zin_all a f1) (zty (zcls q)) (by rw [hc]; exact zty_ok a f1) (by rw [hc]; exact znm_ok a f1) hown hE.1 hP (zD hE) hS q he hcl b (by rw [hc]; exact f2) (by rw [hc]; exact va_Nw.use rfl hl) (fun x h => by rw [hc] at h ⊢; rw [f3] at h; exact h) (by rw [hc]; exact hfin) hpar (by rcases h01 with rfl | rfl <;> rfl) (by rcases h01 with rfl | rfl <;> rfl) (by rw [List.length_map, List.length_range, hc]; exact f2) hd
      (fun H1 locs1 hP1 _ hS1 => k H1 locs1 ls hL (fun w hw => hst w (List.mem_cons_of_mem _ (List.mem_cons_of_mem _ hw))) (zokM_S hM hx1) hh (by rw [← zcell_setS hq41 hq7 (by rw [hc]; exact f2) hv]; exact hP1) hS1)

theorem zo_iaload {mi pc : Nat} {L st : List zV} {σ : zM} (hx : p.tables.exec = Jvm.exec) (hb : c.code = zb mi) (hml : c.maxLocals = zl mi) (hown : s.vm.findClass (zR (zown mi)) = some m.cls) (hts : ∀ w ∈ zGT, w.before args s = true) (hE : zEnv D dA ad s s.heap) {q : Nat} {i : Int} (hd : decode (zb mi) pc = .ok (.iaload, 1)) (hc : zcls q = 20) (hi : 0 ≤ i ∧ i < (zarr q).1) (k : zWX p l e R s m args below meth c cells slots Q D dA ad (zl mi) (pc + 1, L, vI (σ.2 (zarr q).2 i.toNat) :: st, σ)) : zWX p l e R s m args below meth c cells slots Q D dA ad (zl mi) (pc, L, .inl i :: .inr (.inr (.inl q)) :: st, σ) := by
  intro H locs ls hL hst hM hh hP hS
  have hq41 : q < 41 := zcls_lt (by omega) (by omega)
  have ha : (zwl dA ad σ)[q]? = some (ad q, .inl (dA 0, (zarr q).1, .inl (fun j => Int32.ofInt (σ.2 (zarr q).2 j)))) := by
    rw [zwl_at hq41]; unfold zcell; rw [hc]; rfl
  have hi1 : zi32 i := hst (.inl i) List.mem_cons_self
  have k2 := k H locs ls hL (zok_push (show zi32 _ from hM.2 _ _) (fun w hw => hst w (List.mem_cons_of_mem _ (List.mem_cons_of_mem _ hw)))) hM hh hP hS
  refine va_iald hx hb hE.1 hP q 0 ha rfl (zin32 hi1 hi) hd ?_
  rw [zcl32 hi1]
  exact k2

theorem zo_baload {mi pc : Nat} {L st : List zV} {σ : zM} (hx : p.tables.exec = Jvm.exec) (hb : c.code = zb mi) (hml : c.maxLocals = zl mi) (hown : s.vm.findClass (zR (zown mi)) = some m.cls) (hts : ∀ w ∈ zGT, w.before args s = true) (hE : zEnv D dA ad s s.heap) {q : Nat} {i : Int} (hd : decode (zb mi) pc = .ok (.baload, 1)) (hc : zcls q = 21) (hi : 0 ≤ i ∧ i < (zarr q).1) (k : zWX p l e R s m args below meth c cells slots Q D dA ad (zl mi) (pc + 1, L, vI (σ.2 (zarr q).2 i.toNat) :: st, σ)) : zWX p l e R s m args below meth c cells slots Q D dA ad (zl mi) (pc, L, .inl i :: .inr (.inr (.inl q)) :: st, σ) := by
  intro H locs ls hL hst hM hh hP hS
  have hq41 : q < 41 := zcls_lt (by omega) (by omega)
  have ha : (zwl dA ad σ)[q]? = some (ad q, .inl (dA 1, (zarr q).1, .inl (fun j => Int32.ofInt (σ.2 (zarr q).2 j)))) := by
    rw [zwl_at hq41]; unfold zcell; rw [hc]; rfl
  have hi1 : zi32 i := hst (.inl i) List.mem_cons_self
  have k2 := k H locs ls hL (zok_push (show zi32 _ from hM.2 _ _) (fun w hw => hst w (List.mem_cons_of_mem _ (List.mem_cons_of_mem _ hw)))) hM hh hP hS
  refine va_zald hx hb hE.1 hP q 1 ha rfl (zin32 hi1 hi) hd ?_
  rw [zcl32 hi1]
  exact k2

theorem zo_iastore {mi pc : Nat} {L st : List zV} {σ : zM} (hx : p.tables.exec = Jvm.exec) (hb : c.code = zb mi) (hml : c.maxLocals = zl mi) (hown : s.vm.findClass (zR (zown mi)) = some m.cls) (hts : ∀ w ∈ zGT, w.before args s = true) (hE : zEnv D dA ad s s.heap) {q : Nat} {i x : Int} (hd : decode (zb mi) pc = .ok (.iastore, 1)) (hc : zcls q = 20) (hi : 0 ≤ i ∧ i < (zarr q).1) (k : zWX p l e R s m args below meth c cells slots Q D dA ad (zl mi) (pc + 1, L, st, zsetA σ (zarr q).2 (zup (σ.2 (zarr q).2) i.toNat x))) : zWX p l e R s m args below meth c cells slots Q D dA ad (zl mi) (pc, L, .inl x :: .inl i :: .inr (.inr (.inl q)) :: st, σ) := by
  intro H locs ls hL hst hM hh hP hS
  have hq41 : q < 41 := zcls_lt (by omega) (by omega)
  have ha : (zwl dA ad σ)[q]? = some (ad q, .inl (dA 0, (zarr q).1, .inl (fun j => Int32.ofInt (σ.2 (zarr q).2 j)))) := by
    rw [zwl_at hq41]; unfold zcell; rw [hc]; rfl
  have hi1 : zi32 i := hst (.inl i) (List.mem_cons_of_mem _ List.mem_cons_self)
  have hx1 : zi32 x := hst (.inl x) List.mem_cons_self
  refine va_iast hx hb hE.1 hP (zD hE) hS q 0 ha rfl (zin32 hi1 hi) hd (fun H1 locs1 hP1 _ hS1 => ?_)
  refine k H1 locs1 ls hL (fun w hw => hst w (List.mem_cons_of_mem _ (List.mem_cons_of_mem _ (List.mem_cons_of_mem _ hw)))) (zokM_A hM (zok_up (hM.2 _) hx1)) hh ?_ hS1
  rw [← zcell_setA (t := 0) (g := upd (fun j => Int32.ofInt (σ.2 (zarr q).2 j)) i.toNat (Int32.ofInt x)) hq41 (by rw [hc]; simp) ?_]
  · rw [zcl32 hi1] at hP1; exact hP1
  · funext j
    unfold upd zup
    split
    · rfl
    · rfl

theorem zo_bastore {mi pc : Nat} {L st : List zV} {σ : zM} (hx : p.tables.exec = Jvm.exec) (hb : c.code = zb mi) (hml : c.maxLocals = zl mi) (hown : s.vm.findClass (zR (zown mi)) = some m.cls) (hts : ∀ w ∈ zGT, w.before args s = true) (hE : zEnv D dA ad s s.heap) {q : Nat} {i x : Int} (hd : decode (zb mi) pc = .ok (.bastore, 1)) (hc : zcls q = 21) (hi : 0 ≤ i ∧ i < (zarr q).1) (k : zWX p l e R s m args below meth c cells slots Q D dA ad (zl mi) (pc + 1, L, st, zsetA σ (zarr q).2 (zup (σ.2 (zarr q).2) i.toNat (zbin 3 x 1)))) : zWX p l e R s m args below meth c cells slots Q D dA ad (zl mi) (pc, L, .inl x :: .inl i :: .inr (.inr (.inl q)) :: st, σ) := by
  intro H locs ls hL hst hM hh hP hS
  have hq41 : q < 41 := zcls_lt (by omega) (by omega)
  have ha : (zwl dA ad σ)[q]? = some (ad q, .inl (dA 1, (zarr q).1, .inl (fun j => Int32.ofInt (σ.2 (zarr q).2 j)))) := by
    rw [zwl_at hq41]; unfold zcell; rw [hc]; rfl
  have hi1 : zi32 i := hst (.inl i) (List.mem_cons_of_mem _ List.mem_cons_self)
  have hx1 : zi32 x := hst (.inl x) List.mem_cons_self
  refine va_zast hx hb hE.1 hP (zD hE) hS q 1 ha rfl (zin32 hi1 hi) hd (fun H1 locs1 hP1 _ hS1 => ?_)
  refine k H1 locs1 ls hL (fun w hw => hst w (List.mem_cons_of_mem _ (List.mem_cons_of_mem _ (List.mem_cons_of_mem _ hw)))) (zokM_A hM (zok_up (hM.2 _) (zbin_ok 3 x 1))) hh ?_ hS1
  rw [← zcell_setA (t := 1) (g := upd (fun j => Int32.ofInt (σ.2 (zarr q).2 j)) i.toNat (vp_nar .boolean (Int32.ofInt x))) hq41 (by rw [hc]; simp) ?_]
  · rw [zcl32 hi1] at hP1; exact hP1
  · funext j
    unfold upd zup
    split
    · show Int32.ofInt x &&& 1 = Int32.ofInt (Int32.ofInt x &&& Int32.ofInt 1).toInt; rw [Int32.ofInt_toInt]; rfl
    · rfl

theorem zo_alen {mi pc : Nat} {L st : List zV} {σ : zM} (hx : p.tables.exec = Jvm.exec) (hb : c.code = zb mi) (hml : c.maxLocals = zl mi) (hown : s.vm.findClass (zR (zown mi)) = some m.cls) (hts : ∀ w ∈ zGT, w.before args s = true) (hE : zEnv D dA ad s s.heap) {q : Nat} {n : Nat} (hd : decode (zb mi) pc = .ok (.arraylength, 1)) (hc : zcls q = 20 ∧ n = (zarr q).1 ∨ zcls q = 22 ∧ n = 4) (hn : n < 1000) (k : zWX p l e R s m args below meth c cells slots Q D dA ad (zl mi) (pc + 1, L, vI n :: st, σ)) : zWX p l e R s m args below meth c cells slots Q D dA ad (zl mi) (pc, L, .inr (.inr (.inl q)) :: st, σ) := by
  intro H locs ls hL hst hM hh hP hS
  have hq41 : q < 41 := by rcases hc with h | h <;> exact zcls_lt (by omega) (by omega)
  have k2 := k H locs ls hL (zok_push (show zi32 n from ⟨by omega, by omega⟩) (fun w hw => hst w (List.mem_cons_of_mem _ hw))) hM hh hP hS
  rcases hc with ⟨hc, rfl⟩ | ⟨hc, rfl⟩
  · have ha : (zwl dA ad σ)[q]? = some (ad q, .inl (dA 0, (zarr q).1, .inl (fun j => Int32.ofInt (σ.2 (zarr q).2 j)))) := by
      rw [zwl_at hq41]; unfold zcell; rw [hc]; rfl
    exact va_alen hx hb hE.1 hP q 0 ha rfl rfl hd k2
  · have ha : (zwl dA ad σ)[q]? = some (ad q, .inl (dA 2, 4, .inr (.inr (.inr (.inr (fun j => some (ad (zshp j)))))))) := by
      rw [zwl_at hq41]; unfold zcell; rw [hc]; rfl
    exact va_alen hx hb hE.1 hP q 2 ha rfl rfl hd k2

theorem zo_alenS {mi pc : Nat} {L st : List zV} {σ : zM} (hx : p.tables.exec = Jvm.exec) (hb : c.code = zb mi) (hml : c.maxLocals = zl mi) (hown : s.vm.findClass (zR (zown mi)) = some m.cls) (hts : ∀ w ∈ zGT, w.before args s = true) (hE : zEnv D dA ad s s.heap) (hd : decode (zb mi) pc = .ok (.arraylength, 1)) (k : zWX p l e R s m args below meth c cells slots Q D dA ad (zl mi) (pc + 1, L, vI 4 :: st, σ)) : zWX p l e R s m args below meth c cells slots Q D dA ad (zl mi) (pc, L, .inr (.inr (.inl 42)) :: st, σ) := by
  intro H locs ls hL hst hM hh hP hS
  have hT := (hE.2.2.1.1 0 (by decide)).2.2.2
  exact va_tlen hx hb hT hS rfl hd (k H locs ls hL (zok_push (show zi32 4 from ⟨by decide, by decide⟩) (fun w hw => hst w (List.mem_cons_of_mem _ hw))) hM hh hP hS)

theorem zo_baloadS {mi pc : Nat} {L st : List zV} {σ : zM} (hx : p.tables.exec = Jvm.exec) (hb : c.code = zb mi) (hml : c.maxLocals = zl mi) (hown : s.vm.findClass (zR (zown mi)) = some m.cls) (hts : ∀ w ∈ zGT, w.before args s = true) (hE : zEnv D dA ad s s.heap) {i : Int} (hd : decode (zb mi) pc = .ok (.baload, 1)) (hi : 0 ≤ i ∧ i < 4) (k : zWX p l e R s m args below meth c cells slots Q D dA ad (zl mi) (pc + 1, L, vI (zbyt i.toNat) :: st, σ)) : zWX p l e R s m args below meth c cells slots Q D dA ad (zl mi) (pc, L, .inl i :: .inr (.inr (.inl 42)) :: st, σ) := by
  intro H locs ls hL hst hM hh hP hS
  have hT := (hE.2.2.1.1 0 (by decide)).2.2.2
  have hi1 : zi32 i := hst (.inl i) List.mem_cons_self
  have hv : ∀ n, n < 4 → (Value.int (((zstrB.getD 0 []).getD n 0)) = .int (Int32.ofInt (zbyt n)) ∧ zi32 (zbyt n)) := by unfold zi32; decide +kernel
  obtain ⟨hv1, hv2⟩ := hv i.toNat (by omega)
  have k2 := k H locs ls hL (zok_push (show zi32 _ from hv2) (fun w hw => hst w (List.mem_cons_of_mem _ (List.mem_cons_of_mem _ hw)))) hM hh hP hS
  refine va_tb (v := .int (Int32.ofInt (zbyt i.toNat))) hx hb hT hS (zin32 (n := 4) hi1 hi) ?_ hd k2
  rw [zcl32 hi1]
  exact hv1

theorem zo_aaload {mi pc : Nat} {L st : List zV} {σ : zM} (hx : p.tables.exec = Jvm.exec) (hb : c.code = zb mi) (hml : c.maxLocals = zl mi) (hown : s.vm.findClass (zR (zown mi)) = some m.cls) (hts : ∀ w ∈ zGT, w.before args s = true) (hE : zEnv D dA ad s s.heap) {q : Nat} {i : Int} (hd : decode (zb mi) pc = .ok (.aaload, 1)) (hc : zcls q = 22) (hi : 0 ≤ i ∧ i < 4) (k : zWX p l e R s m args below meth c cells slots Q D dA ad (zl mi) (pc + 1, L, vR (zshp i.toNat) :: st, σ)) : zWX p l e R s m args below meth c cells slots Q D dA ad (zl mi) (pc, L, .inl i :: .inr (.inr (.inl q)) :: st, σ) := by
  intro H locs ls hL hst hM hh hP hS
  have hq41 : q < 41 := zcls_lt (by omega) (by omega)
  have ha : (zwl dA ad σ)[q]? = some (ad q, .inl (dA 2, 4, .inr (.inr (.inr (.inr (fun j => some (ad (zshp j)))))))) := by
    rw [zwl_at hq41]; unfold zcell; rw [hc]; rfl
  have hi1 : zi32 i := hst (.inl i) List.mem_cons_self
  have k2 := k H locs ls hL (zok_push trivial (fun w hw => hst w (List.mem_cons_of_mem _ (List.mem_cons_of_mem _ hw)))) hM hh hP hS
  refine va_aldq hx hb hE.1 hP q 2 ha rfl (zin32 (n := 4) hi1 hi) hd ?_
  rw [zcl32 hi1]
  exact k2

theorem zo_acopy {mi pc : Nat} {L st : List zV} {σ : zM} (hx : p.tables.exec = Jvm.exec) (hb : c.code = zb mi) (hml : c.maxLocals = zl mi) (hown : s.vm.findClass (zR (zown mi)) = some m.cls) (hts : ∀ w ∈ zGT, w.before args s = true) (hE : zEnv D dA ad s s.heap) {q r n : Nat} {x dp sp : Int} (hRf : 1 ≤ R.frames ∧ 40 ≤ R.locals) (hd : decode (zb mi) pc = .ok (.invokestatic n, 3)) (hn : (zown mi, n) ∈ zacp) (hcq : zcls q = 20) (hcr : zcls r = 20) (h1 : 0 ≤ sp ∧ 0 ≤ dp ∧ 0 ≤ x) (h2 : sp + x ≤ (zarr r).1) (h3 : dp + x ≤ (zarr q).1) (k : zWX p l e R s m args below meth c cells slots Q D dA ad (zl mi) (pc + 3, L, [], zsetA σ (zarr q).2 (zcpy (σ.2 (zarr r).2) (σ.2 (zarr q).2) sp.toNat dp.toNat x.toNat))) : zWX p l e R s m args below meth c cells slots Q D dA ad (zl mi) (pc, L, [.inl x, .inl dp, .inr (.inr (.inl q)), .inl sp, .inr (.inr (.inl r))], σ) := by
  intro H locs ls hL hst hM hh hP hS
  have hq41 : q < 41 := zcls_lt (by omega) (by omega)
  have hr41 : r < 41 := zcls_lt (by omega) (by omega)
  have haq : (zwl dA ad σ)[q]? = some (ad q, .inl (dA 0, (zarr q).1, .inl (fun j => Int32.ofInt (σ.2 (zarr q).2 j)))) := by
    rw [zwl_at hq41]; unfold zcell; rw [hcq]; rfl
  have har : (zwl dA ad σ)[r]? = some (ad r, .inl (dA 0, (zarr r).1, .inl (fun j => Int32.ofInt (σ.2 (zarr r).2 j)))) := by
    rw [zwl_at hr41]; unfold zcell; rw [hcr]; rfl
  have i1 : zi32 x := hst (.inl x) (by simp)
  have i2 : zi32 dp := hst (.inl dp) (by simp)
  have i3 : zi32 sp := hst (.inl sp) (by simp)
  have nl : ∀ z : Int, zi32 z → 0 ≤ z → ¬ Int32.ofInt z < 0 := fun z hz h0 q => by have := (zlt32 hz zi320).mp q; omega
  refine va_copyi (ty := .int) hx hb (by rw [hml]; exact hh.1.symm) hown (hts _ (zaok _ hn)) (hts _ zac_nat) (hts _ zac_stat) (hts _ zac_ini) hE.1 hP (zD hE) hS r q 0 0 har haq rfl rfl rfl (nl _ i3 h1.1) (nl _ i2 h1.2.1) (nl _ i1 h1.2.2) ?_ ?_ (fun _ _ => rfl) hRf.1 ?_ hd (fun H1 locs1 hP1 _ hS1 => ?_)
  · rw [zcl32 i3, zcl32 i1]; omega
  · rw [zcl32 i2, zcl32 i1]; omega
  · show 0 + (nativeFrameWords "java/lang/System" "arraycopy" 5 + 11) ≤ R.locals
    have : nativeFrameWords "java/lang/System" "arraycopy" 5 = 7 := by decide +kernel
    omega
  · refine k H1 locs1 ls hL (fun w hw => by cases hw) (zokM_A hM (fun j => ?_)) hh ?_ hS1
    · unfold zcpy; split; exact hM.2 _ _; exact hM.2 _ _
    · rw [← zcell_setA (t := 0) (g := va_cpy (fun j => Int32.ofInt (σ.2 (zarr r).2 j)) (fun j => Int32.ofInt (σ.2 (zarr q).2 j)) sp.toNat dp.toNat x.toNat) hq41 (by rw [hcq]; simp) ?_]
      · rw [zcl32 i3, zcl32 i2, zcl32 i1] at hP1; exact hP1
      · funext j
        unfold va_cpy zcpy
        split <;> rfl

theorem zo_dup {mi pc : Nat} {L st : List zV} {σ : zM} (hx : p.tables.exec = Jvm.exec) (hb : c.code = zb mi) (hml : c.maxLocals = zl mi) (hown : s.vm.findClass (zR (zown mi)) = some m.cls) (hts : ∀ w ∈ zGT, w.before args s = true) (hE : zEnv D dA ad s s.heap) {q : Nat} (hd : decode (zb mi) pc = .ok (.dup, 1)) (k : zWX p l e R s m args below meth c cells slots Q D dA ad (zl mi) (pc + 1, L, .inr (.inr (.inl q)) :: .inr (.inr (.inl q)) :: st, σ)) : zWX p l e R s m args below meth c cells slots Q D dA ad (zl mi) (pc, L, .inr (.inr (.inl q)) :: st, σ) := by
  intro H locs ls hL hst hM hh hP hS
  exact lv_dup hx hb hd rfl (k H locs ls hL (zok_push trivial hst) hM hh hP hS)

theorem zo_dup2 {mi pc : Nat} {L st : List zV} {σ : zM} (hx : p.tables.exec = Jvm.exec) (hb : c.code = zb mi) (hml : c.maxLocals = zl mi) (hown : s.vm.findClass (zR (zown mi)) = some m.cls) (hts : ∀ w ∈ zGT, w.before args s = true) (hE : zEnv D dA ad s s.heap) {q : Nat} {i : Int} (hd : decode (zb mi) pc = .ok (.dup2, 1)) (k : zWX p l e R s m args below meth c cells slots Q D dA ad (zl mi) (pc + 1, L, .inl i :: .inr (.inr (.inl q)) :: .inl i :: .inr (.inr (.inl q)) :: st, σ)) : zWX p l e R s m args below meth c cells slots Q D dA ad (zl mi) (pc, L, .inl i :: .inr (.inr (.inl q)) :: st, σ) := by
  intro H locs ls hL hst hM hh hP hS
  exact lv_dup2_11 hx hb hd rfl rfl (k H locs ls hL (zok_push (hst _ List.mem_cons_self) (zok_push trivial hst)) hM hh hP hS)

theorem zo_pop {mi pc : Nat} {L st : List zV} {σ : zM} (hx : p.tables.exec = Jvm.exec) (hb : c.code = zb mi) (hml : c.maxLocals = zl mi) (hown : s.vm.findClass (zR (zown mi)) = some m.cls) (hts : ∀ w ∈ zGT, w.before args s = true) (hE : zEnv D dA ad s s.heap) {x : Int} (hd : decode (zb mi) pc = .ok (.pop, 1)) (k : zWX p l e R s m args below meth c cells slots Q D dA ad (zl mi) (pc + 1, L, st, σ)) : zWX p l e R s m args below meth c cells slots Q D dA ad (zl mi) (pc, L, .inl x :: st, σ) := by
  intro H locs ls hL hst hM hh hP hS
  exact lv_pop hx hb hd rfl (k H locs ls hL (fun w hw => hst w (List.mem_cons_of_mem _ hw)) hM hh hP hS)

theorem zo_null {mi pc : Nat} {L st : List zV} {σ : zM} (hx : p.tables.exec = Jvm.exec) (hb : c.code = zb mi) (hml : c.maxLocals = zl mi) (hown : s.vm.findClass (zR (zown mi)) = some m.cls) (hts : ∀ w ∈ zGT, w.before args s = true) (hE : zEnv D dA ad s s.heap) (hd : decode (zb mi) pc = .ok (.aconst_null, 1)) (k : zWX p l e R s m args below meth c cells slots Q D dA ad (zl mi) (pc + 1, L, vN :: st, σ)) : zWX p l e R s m args below meth c cells slots Q D dA ad (zl mi) (pc, L, st, σ) := by
  intro H locs ls hL hst hM hh hP hS
  exact lv_null hx hb hd (k H locs ls hL (zok_push trivial hst) hM hh hP hS)

theorem zo_ldcS {mi pc : Nat} {L st : List zV} {σ : zM} (hx : p.tables.exec = Jvm.exec) (hb : c.code = zb mi) (hml : c.maxLocals = zl mi) (hown : s.vm.findClass (zR (zown mi)) = some m.cls) (hts : ∀ w ∈ zGT, w.before args s = true) (hE : zEnv D dA ad s s.heap) (hd : decode (zb mi) pc = .ok (.ldc 112, 2)) (ho : zown mi = 5) (k : zWX p l e R s m args below meth c cells slots Q D dA ad (zl mi) (pc + 2, L, vR 41 :: st, σ)) : zWX p l e R s m args below meth c cells slots Q D dA ad (zl mi) (pc, L, st, σ) := by
  intro H locs ls hL hst hM hh hP hS
  exact va_ldcS hx hb (own := "PaleFence") (by rw [ho] at hown; exact hown) hE.2.2.2.2.1 hd (k H locs ls hL (zok_push trivial hst) hM hh hP hS)

theorem zo_getstatic {mi pc : Nat} {L st : List zV} {σ : zM} (hx : p.tables.exec = Jvm.exec) (hb : c.code = zb mi) (hml : c.maxLocals = zl mi) (hown : s.vm.findClass (zR (zown mi)) = some m.cls) (hts : ∀ w ∈ zGT, w.before args s = true) (hE : zEnv D dA ad s s.heap) (hd : decode (zb mi) pc = .ok (.getstatic 38, 3)) (ho : zown mi = 7) (k : zWX p l e R s m args below meth c cells slots Q D dA ad (zl mi) (pc + 3, L, vI 1 :: st, σ)) : zWX p l e R s m args below meth c cells slots Q D dA ad (zl mi) (pc, L, st, σ) := by
  intro H locs ls hL hst hM hh hP hS
  exact va_gets hx hb hE.2.2.2.1 hS (own := "java/lang/String") (by rw [ho] at hown; exact hown) (hts _ zlk_cs) (fun _ h => h) hd (k H locs ls hL (zok_push (show zi32 1 from ⟨by decide, by decide⟩) hst) hM hh hP hS)

theorem zo_strVal {mi pc : Nat} {L st : List zV} {σ : zM} (hx : p.tables.exec = Jvm.exec) (hb : c.code = zb mi) (hml : c.maxLocals = zl mi) (hown : s.vm.findClass (zR (zown mi)) = some m.cls) (hts : ∀ w ∈ zGT, w.before args s = true) (hE : zEnv D dA ad s s.heap) (hd : decode (zb mi) pc = .ok (.getfield 9, 3)) (ho : zown mi = 7) (k : zWX p l e R s m args below meth c cells slots Q D dA ad (zl mi) (pc + 3, L, vR 42 :: st, σ)) : zWX p l e R s m args below meth c cells slots Q D dA ad (zl mi) (pc, L, .inr (.inr (.inl 41)) :: st, σ) := by
  intro H locs ls hL hst hM hh hP hS
  exact vk_getf hx hb (hE.2.2.1.1 0 (by decide)).2.2.1 hS (own := "java/lang/String") (by rw [ho] at hown; exact hown) (hts _ zlk_val) (fun _ h => h) hd (k H locs ls hL (zok_push trivial (fun w hw => hst w (List.mem_cons_of_mem _ hw))) hM hh hP hS)

theorem zo_strCod {mi pc : Nat} {L st : List zV} {σ : zM} (hx : p.tables.exec = Jvm.exec) (hb : c.code = zb mi) (hml : c.maxLocals = zl mi) (hown : s.vm.findClass (zR (zown mi)) = some m.cls) (hts : ∀ w ∈ zGT, w.before args s = true) (hE : zEnv D dA ad s s.heap) (hd : decode (zb mi) pc = .ok (.getfield 15, 3)) (ho : zown mi = 7) (k : zWX p l e R s m args below meth c cells slots Q D dA ad (zl mi) (pc + 3, L, vI 0 :: st, σ)) : zWX p l e R s m args below meth c cells slots Q D dA ad (zl mi) (pc, L, .inr (.inr (.inl 41)) :: st, σ) := by
  intro H locs ls hL hst hM hh hP hS
  exact vk_getf hx hb (hE.2.2.1.1 0 (by decide)).2.1 hS (own := "java/lang/String") (by rw [ho] at hown; exact hown) (hts _ zlk_cod) (fun _ h => h) hd (k H locs ls hL (zok_push zi320 (fun w hw => hst w (List.mem_cons_of_mem _ hw))) hM hh hP hS)

theorem zo_slen {mi pc : Nat} {L st : List zV} {σ : zM} (hx : p.tables.exec = Jvm.exec) (hb : c.code = zb mi) (hml : c.maxLocals = zl mi) (hown : s.vm.findClass (zR (zown mi)) = some m.cls) (hts : ∀ w ∈ zGT, w.before args s = true) (hE : zEnv D dA ad s s.heap) {sL : Nat} {xs : Nat → Int32} (hX : va_X (ad 43) sL xs s s.heap ∧ ad 43 < s.heap.size ∧ ¬ zA ad (ad 43)) (hs : sL < 100000) (hd : decode (zb mi) pc = .ok (.arraylength, 1)) (k : zWX p l e R s m args below meth c cells slots Q D dA ad (zl mi) (pc + 1, L, vI sL :: st, σ)) : zWX p l e R s m args below meth c cells slots Q D dA ad (zl mi) (pc, L, .inr (.inr (.inl 43)) :: st, σ) := by
  intro H locs ls hL hst hM hh hP hS
  have k2 := k H locs ls hL (zok_push (show zi32 sL from ⟨by omega, by omega⟩) (fun w hw => hst w (List.mem_cons_of_mem _ hw))) hM hh hP hS
  exact va_slen hx hb hX.1 hX.2.1 hX.2.2 hS hd k2

theorem zo_sload {mi pc : Nat} {L st : List zV} {σ : zM} (hx : p.tables.exec = Jvm.exec) (hb : c.code = zb mi) (hml : c.maxLocals = zl mi) (hown : s.vm.findClass (zR (zown mi)) = some m.cls) (hts : ∀ w ∈ zGT, w.before args s = true) (hE : zEnv D dA ad s s.heap) {sL : Nat} {xs : Nat → Int32} {i : Int} (hX : va_X (ad 43) sL xs s s.heap ∧ ad 43 < s.heap.size ∧ ¬ zA ad (ad 43)) (hd : decode (zb mi) pc = .ok (.iaload, 1)) (hi : 0 ≤ i ∧ i < sL) (k : zWX p l e R s m args below meth c cells slots Q D dA ad (zl mi) (pc + 1, L, vI (xs i.toNat).toInt :: st, σ)) : zWX p l e R s m args below meth c cells slots Q D dA ad (zl mi) (pc, L, .inl i :: .inr (.inr (.inl 43)) :: st, σ) := by
  intro H locs ls hL hst hM hh hP hS
  have hi1 : zi32 i := hst (.inl i) List.mem_cons_self
  have k2 := k H locs ls hL (zok_push (show zi32 _ from zof32 _) (fun w hw => hst w (List.mem_cons_of_mem _ (List.mem_cons_of_mem _ hw)))) hM hh hP hS
  refine va_sld hx hb hX.1 hX.2.1 hX.2.2 hS (zin32 hi1 hi) hd ?_
  rw [zcl32 hi1]
  simp only [List.map_cons, zcv, Int32.ofInt_toInt] at k2
  exact k2

theorem zo_switch {mi pc : Nat} {L st : List zV} {σ : zM} (hx : p.tables.exec = Jvm.exec) (hb : c.code = zb mi) (hml : c.maxLocals = zl mi) (hown : s.vm.findClass (zR (zown mi)) = some m.cls) (hts : ∀ w ∈ zGT, w.before args s = true) (hE : zEnv D dA ad s s.heap) {x : Int} {d : Int} {offs : Array Int} {len : Nat} (hd : decode (zb mi) pc = .ok (.tableswitch d 0 33 offs, len)) (hdf : (pc : Int) + d = (zswd : Int)) (hsz : offs.size = 34) (ho : ∀ j, j < 34 → (pc : Int) + offs.getD j 0 = ((zswl.getD j 0 : Nat) : Int)) (k : zWX p l e R s m args below meth c cells slots Q D dA ad (zl mi) (zswt x, L, st, σ)) : zWX p l e R s m args below meth c cells slots Q D dA ad (zl mi) (pc, L, .inl x :: st, σ) := by
  intro H locs ls hL hst hM hh hP hS
  have hx1 : zi32 x := hst (.inl x) List.mem_cons_self
  have k2 := k H locs ls hL (fun w hw => hst w (List.mem_cons_of_mem _ hw)) hM hh hP hS
  by_cases hr : 0 ≤ x ∧ x ≤ 33
  · have e : zswt x = zswl.getD x.toNat 0 := if_pos hr
    have hj : x.toNat < 34 := by omega
    refine lv_tableIn (off := offs.getD x.toNat 0) (tgt := zswl.getD x.toNat 0) hx hb hd (by rw [zto32 hx1]; omega) (by rw [zto32 hx1]; omega) ?_ (ho _ hj) ?_
    · rw [zto32 hx1, Int.sub_zero, Array.getD_eq_getD_getElem?, Array.getElem?_eq_getElem (by omega)]; rfl
    · rw [← e]; exact k2
  · have e : zswt x = zswd := if_neg hr
    refine lv_tableOut (tgt := zswd) hx hb hd (by rw [zto32 hx1]; omega) hdf ?_
    rw [← e]; exact k2

theorem zo_call {mi pc : Nat} {L st : List zV} {σ : zM} (hx : p.tables.exec = Jvm.exec) (hb : c.code = zb mi) (hml : c.maxLocals = zl mi) (hown : s.vm.findClass (zR (zown mi)) = some m.cls) (hts : ∀ w ∈ zGT, w.before args s = true) (hE : zEnv D dA ad s s.heap) {a b n z : Nat} {as r : List zV} {rm : Room} {Call : Nat → List zV → zM → (zM → Option zV → Prop) → Prop} (hC : ∀ (mi : Nat) (as : List zV) (σ : zM) (K : zM → Option zV → Prop), mi < 138 → Call mi as σ K → zokM σ → (∀ v ∈ as, zokV v) → Met l (zy mi) (zws mi) rm (zPc D dA ad as σ) (zQc D dA ad K) 0 0 (zA ad)) (hrm : rm.cells = 0 ∧ rm.slots = 0 ∧ rm.frames + 1 ≤ R.frames ∧ 40 + rm.locals ≤ R.locals ∧ cells ≤ R.cells ∧ slots ≤ R.slots) (hi : (decode (zb mi) pc = .ok (.invokevirtual n, 3) ∧ zkd a = 0 ∧ b = zar a + 1) ∨ (decode (zb mi) pc = .ok (.invokestatic n, 3) ∧ zkd a = 1 ∧ b = zar a ∧ z = 0)) (hq : (zown mi, n, z, a) ∈ zcall) (hp : zpop b [] st = some (as, r)) (hv : zrcv a as = true) (hs : zcsum r ≤ 8) (k : Call a as σ (fun σ1 v => zWX p l e R s m args below meth c cells slots Q D dA ad (zl mi) (pc + 3, L, v.toList ++ r, σ1))) : zWX p l e R s m args below meth c cells slots Q D dA ad (zl mi) (pc, L, st, σ) := by
  intro H locs ls hL hst hM hh hP hS
  obtain ⟨ha, hm0, hm1⟩ := zcok _ hq
  obtain ⟨w1, w2, w3, w4, w5, w6, w7, w8⟩ := zmok_to_138 a ha
  obtain ⟨pre, hp1, hp2, hp3⟩ := zpop_spec b [] st as r hp
  rw [List.append_nil] at hp2
  have hpre : pre = as.reverse := by rw [hp2, List.reverse_reverse]
  subst hp1
  have hok1 : ∀ v ∈ as, zokV v := fun v h => hst v (List.mem_append_left _ (by rw [hpre]; exact List.mem_reverse.mpr h))
  have hok2 : ∀ v ∈ r, zokV v := fun v h => hst v (List.mem_append_right _ h)
  have hMet := hC a as σ _ ha k hM hok1
  have hR1 : rm.frames + 1 ≤ R.frames ∧ 8 + (zl a + 11) + rm.locals ≤ R.locals := ⟨hrm.2.2.1, by have := hrm.2.2.2.2.1; omega⟩
  have hroom : 2 * (F0 m pc ls (((pre ++ r)).map (zcv ad))).monitorRoom + ((r.map (zcv ad)).map fun v => v.category).sum ≤ 8 := by
    have := lv_room (m := m) (pc := pc) (ls := ls) (rest := ((pre ++ r)).map (zcv ad)) (st := r.map (zcv ad)) (by rw [zcsum_eq]; exact hs)
    exact this
  have hG := zgood_in a w1
  have hkk : ∀ (σ1 : zM) (v : Option zV) (H1 : Heap) (locs1 : List Loc), (fun (σ1 : zM) (v : Option zV) => zWX p l e R s m args below meth c cells slots Q D dA ad (zl mi) (pc + 3, L, v.toList ++ r, σ1)) σ1 v → zokM σ1 → (∀ w, v = some w → zokV w) → va_P D vwCl (zwl dA ad σ1) H1 → va_S (zA ad) s.heap H1 locs1 → W p l e R s m args below meth c H1 locs1 cells slots Q (F0 m (pc + 3) ls ((v.map (zcv ad)).toList ++ r.map (zcv ad))) := by
    intro σ1 v H1 locs1 kk hM1 hv1 hP1 hS1
    have k2 := kk H1 locs1 ls hL (fun w hw => by
      rcases List.mem_append.mp hw with h | h
      · exact hv1 w (by cases v with | none => cases h | some u => rw [show w = u from by simpa using h])
      · exact hok2 w h) hM1 hh hP1 hS1
    rw [List.map_append] at k2
    have e : v.toList.map (zcv ad) = (v.map (zcv ad)).toList := by cases v <;> rfl
    rw [e] at k2
    exact k2
  have hPre : ∀ U : State, U.heap = H → s.WarmedH U.vm → zPc D dA ad as σ (as.map (zcv ad)).toArray U := fun U hU hW => ⟨rfl, by rw [hU]; exact hP, by rw [hU]; exact zEnv_at hE hW (fun q h1 h2 => hS.2.1 q h1 h2)⟩
  have hcs : cells + 0 ≤ R.cells ∧ slots + 0 ≤ R.slots := ⟨hrm.2.2.2.2.1, hrm.2.2.2.2.2⟩
  rcases hi with ⟨hd, hkd, hbn⟩ | ⟨hd, hkd, hbn, hz⟩
  · obtain ⟨w9, w10⟩ := w7 hkd
    obtain ⟨q, as1, rfl, hcq⟩ : ∃ q as1, as = .inr (.inr (.inl q)) :: as1 ∧ zcls q = zown a := by
      unfold zrcv at hv
      rw [hkd] at hv
      split at hv
      · rename_i h; cases h
      · rename_i q t _; exact ⟨q, t, rfl, Nat.eq_of_beq_eq_true hv⟩
      · cases hv
    have hn : (as1.map (zcv ad)).length = zar a := by
      rw [List.length_map]
      have := congrArg List.length hpre
      simp at this
      omega
    have hstk : (F0 m pc ls ((pre ++ r).map (zcv ad))).stack = (as1.map (zcv ad)).reverse ++ .ref (ad q) :: r.map (zcv ad) := by
      show (pre ++ r).map (zcv ad) = _
      rw [hpre]
      simp [zcv]
    have hrecv : ∃ cellB : Cell, H[ad q]? = some cellB ∧ cellB.vm.isStatics = false ∧ s.vm.findClass (zy a).cls = some cellB.cls := by
      rw [w4]
      by_cases h7 : zcls q = 7
      · have hq41 : q = 41 := zcls_7 h7
        subst hq41
        obtain ⟨cell, g1, g2, g3, g4⟩ := (hE.2.2.1.1 0 (by decide)).1
        refine ⟨cell, ?_, g2, ?_⟩
        · rw [hS.2.1 _ (Array.getElem?_eq_some_iff.mp g1).1 g4]; exact g1
        · rw [← hcq, h7]; exact g3
      · have hlt : zcls q < 7 := by have := zown_obj a ha hkd; rw [← hcq] at this; omega
        have hq41 : q < 41 := zcls_lt (by omega) h7
        have he : (zwl dA ad σ)[q]? = some (ad q, .inr (zcls q, (List.range (zNf (zcls q))).map (zfw ad σ q))) := by
          rw [zwl_at hq41]; unfold zcell; rw [if_pos hlt]
        have hr := va_recv hE.1 hP (zcl_at (zcls q) hlt) he
        rw [hcq] at hr
        exact hr
    by_cases hz : z = 0
    · have cw := cwV (own := zR (zown mi)) (index := n) (C := (zy a).cls) (y := zy a) (bytes := zb a) (maxL := zl a) (ret := zret a) (ws := zws a) (ws' := zGT) (rm := rm) (R := R) (mc := 0) (ms := 0) (zar a) hts (by
        intro w hw
        have hw2 : w ∈ ([.methodLink (zR (zown mi)) n (zy a), .instanceMethod (zy a), .selects (zy a).cls (zy a) (zy a), .initialized (zy a).cls] : List Cond) ++ zws a := hw
        rcases List.mem_append.mp hw2 with h | h
        · have : w ∈ zGT := by
            simp only [List.mem_cons, List.not_mem_nil, or_false] at h
            rcases h with rfl | rfl | rfl | rfl
            · exact hm0 hz
            · exact w9
            · exact w10
            · exact w2
          exact ⟨this, good_of_word (zGT_good w this)⟩
        · exact hG w h) rfl hrm.1 hrm.2.1 ⟨rfl, w5.1, w5.2.1, w5.2.2⟩ hR1
      exact z_call (va_runV (As := as1.map (zcv ad)) ⟨hx, hb, hml, hown, hts⟩ hMet cw ⟨zPc_blind, hrecv, hPre⟩ rfl hn (by show ls.size = zl mi; exact hh.1) hstk hroom hd hcs) hS hkk
    · obtain ⟨g1, -⟩ := hm1 hz
      have hl := hE.2.1.2 _ hq g1
      have cw := va_cnB (own := zR (zown mi)) (index := n) (host := "PaleFence") (y := zy a) (bytes := zb a) (maxL := zl a) (ret := zret a) (ws := zws a) (ws' := zGT) (rm := rm) (R := R) (mc := 0) (ms := 0) (zar a) hts hG rfl hrm.1 hrm.2.1 hl (hts _ w2) ⟨w5.1, w5.2.1, w5.2.2⟩ hR1
      exact z_call (va_runVN (As := as1.map (zcv ad)) (C := (zy a).cls) ⟨hx, hb, hml, hown, hts⟩ hMet ⟨cw, hts _ w9, hts _ w10⟩ ⟨zPc_blind, hrecv, hPre⟩ rfl hn (by show ls.size = zl mi; exact hh.1) hstk hroom hd hcs) hS hkk
  · have w9 := w8 hkd
    have hn : (as.map (zcv ad)).length = zar a := by
      rw [List.length_map]
      have := congrArg List.length hpre
      simp at this
      omega
    have hstk : (F0 m pc ls ((pre ++ r).map (zcv ad))).stack = (as.map (zcv ad)).reverse ++ r.map (zcv ad) := by
      show (pre ++ r).map (zcv ad) = _
      rw [hpre]
      simp
    have cw := va_cwS (own := zR (zown mi)) (index := n) (y := zy a) (bytes := zb a) (maxL := zl a) (ret := zret a) (ws := zws a) (ws' := zGT) (rm := rm) (R := R) (mc := 0) (ms := 0) (zar a) hts (by
        intro w hw
        have hw2 : w ∈ ([.methodLink (zR (zown mi)) n (zy a), .static (zy a), .initialized (zy a).cls] : List Cond) ++ zws a := hw
        rcases List.mem_append.mp hw2 with h | h
        · have : w ∈ zGT := by
            simp only [List.mem_cons, List.not_mem_nil, or_false] at h
            rcases h with rfl | rfl | rfl
            · exact hm0 hz
            · exact w9
            · exact w2
          exact ⟨this, good_of_word (zGT_good w this)⟩
        · exact hG w h) rfl hrm.1 hrm.2.1 ⟨w5.1, w5.2.1, w5.2.2⟩ hR1
    exact z_call (va_runS (As := as.map (zcv ad)) ⟨hx, hb, hml, hown, hts⟩ hMet cw ⟨zPc_blind, hPre⟩ rfl hn (by show ls.size = zl mi; exact hh.1) hstk hroom hd hcs) hS hkk

theorem zo_mmax {mi pc : Nat} {L st : List zV} {σ : zM} (hx : p.tables.exec = Jvm.exec) (hb : c.code = zb mi) (hml : c.maxLocals = zl mi) (hown : s.vm.findClass (zR (zown mi)) = some m.cls) (hts : ∀ w ∈ zGT, w.before args s = true) (hE : zEnv D dA ad s s.heap) {x y : Int} {n : Nat} (hRf : 1 ≤ R.frames ∧ 40 ≤ R.locals ∧ cells ≤ R.cells ∧ slots ≤ R.slots) (hd : decode (zb mi) pc = .ok (.invokestatic n, 3)) (hn : (zown mi, n) ∈ zmxl) (hs : zcsum st ≤ 20) (k : zWX p l e R s m args below meth c cells slots Q D dA ad (zl mi) (pc + 3, L, vI (if x < y then y else x) :: st, σ)) : zWX p l e R s m args below meth c cells slots Q D dA ad (zl mi) (pc, L, .inl y :: .inl x :: st, σ) := by
  intro H locs ls hL hst hM hh hP hS
  have hy1 : zi32 y := hst (.inl y) List.mem_cons_self
  have hx1 : zi32 x := hst (.inl x) (List.mem_cons_of_mem _ List.mem_cons_self)
  have k2 := k H locs ls hL (zok_push (show zi32 (if x < y then y else x) from by split; first | exact hx1 | exact hy1; first | exact hx1 | exact hy1) (fun w hw => hst w (List.mem_cons_of_mem _ (List.mem_cons_of_mem _ hw)))) hM hh hP hS
  refine va_mmax hx hb (by rw [hml]; exact hh.1.symm) hown (hts _ (zxok _ hn)) (hts _ zmx_stat) (hts _ zm_ini) (hts _ zmx_code) hRf.1 (by rw [zcsum_eq]; omega) hRf.2.2.1 hRf.2.2.2 hd ?_
  have e : (if Int32.ofInt x < Int32.ofInt y then Int32.ofInt y else Int32.ofInt x) = Int32.ofInt (if x < y then y else x) := by
    by_cases h : x < y
    · rw [if_pos h, if_pos ((zlt32 hx1 hy1).mpr h)]
    · rw [if_neg h, if_neg (fun q => h ((zlt32 hx1 hy1).mp q))]
  rw [e]
  exact k2

theorem zo_mmin {mi pc : Nat} {L st : List zV} {σ : zM} (hx : p.tables.exec = Jvm.exec) (hb : c.code = zb mi) (hml : c.maxLocals = zl mi) (hown : s.vm.findClass (zR (zown mi)) = some m.cls) (hts : ∀ w ∈ zGT, w.before args s = true) (hE : zEnv D dA ad s s.heap) {x y : Int} {n : Nat} (hRf : 1 ≤ R.frames ∧ 40 ≤ R.locals ∧ cells ≤ R.cells ∧ slots ≤ R.slots) (hd : decode (zb mi) pc = .ok (.invokestatic n, 3)) (hn : (zown mi, n) ∈ zmnl) (hs : zcsum st ≤ 20) (k : zWX p l e R s m args below meth c cells slots Q D dA ad (zl mi) (pc + 3, L, vI (if y < x then y else x) :: st, σ)) : zWX p l e R s m args below meth c cells slots Q D dA ad (zl mi) (pc, L, .inl y :: .inl x :: st, σ) := by
  intro H locs ls hL hst hM hh hP hS
  have hy1 : zi32 y := hst (.inl y) List.mem_cons_self
  have hx1 : zi32 x := hst (.inl x) (List.mem_cons_of_mem _ List.mem_cons_self)
  have k2 := k H locs ls hL (zok_push (show zi32 (if y < x then y else x) from by split; first | exact hx1 | exact hy1; first | exact hx1 | exact hy1) (fun w hw => hst w (List.mem_cons_of_mem _ (List.mem_cons_of_mem _ hw)))) hM hh hP hS
  refine va_mmin hx hb (by rw [hml]; exact hh.1.symm) hown (hts _ (ziok _ hn)) (hts _ zmn_stat) (hts _ zm_ini) (hts _ zmn_code) hRf.1 (by rw [zcsum_eq]; omega) hRf.2.2.1 hRf.2.2.2 hd ?_
  have e : (if Int32.ofInt y < Int32.ofInt x then Int32.ofInt y else Int32.ofInt x) = Int32.ofInt (if y < x then y else x) := by
    by_cases h : y < x
    · rw [if_pos h, if_pos ((zlt32 hy1 hx1).mpr h)]
    · rw [if_neg h, if_neg (fun q => h ((zlt32 hy1 hx1).mp q))]
  rw [e]
  exact k2

end ZSTEP
