/-! THE CLAIM OUT OF ONE WALK OF THE LAW'S BODY. Your part is whole_start (and what it stands on); all else here is the same for every law, but numbers. -/
def R_law : String := "PaleFenceLaw"
def lw_P (b : Addr) (xs : List Int32) (args : Array Value) (s : State) : Prop := args = #[.ref b] ∧ s.IntsAt b xs ∧ xs.length ≤ 3072 ∧ (Jvm.Cond.and given_1 narrow_1).before args s = true
def lw_Q (_ : Array Value) (s : State) (o : Outcome) (t : State) : Prop := o = .returned (some (.int 1)) ∧ Framed s o t [] 600000 7302250
def lw_Z (below : List Frame) (a : Array Value) (s : State) : State → Prop := fun t => ∃ o, t.status = .running ∧ Ended t below o ∧ lw_Q a s o t
/-- the law's own end, with 1 on the stack, nothing written that was there before, its room as the claim has it -/
theorem lw_ret {p : Program} {l : Launch} {e : Env} {s : State} {m : MethodId} {below : List Frame} {meth : Method} {c : Code} {b : Nat} (hx : p.tables.exec = Jvm.exec) (hb : c.code = code) (hr : meth.sig.returnType = ret) (hlocks : meth.locks = false) {pc : Nat} {H : Heap} {ls : Array Slot} (hdg : decode code pc = .ok (.ireturn, 1)) : W p l e room_1 s m #[Value.ref b] below meth c H [] 600000 7302250 (lw_Z below #[Value.ref b] s) (F0 m pc ls [.int 1]) := by
  intro T hT X
  obtain ⟨fs, hret, hrun, hended, hW, hframe⟩ := X.leave (v := some (.int 1)) (hlocks := hlocks) (fun h => by rw [hr] at h; cases h)
  have hmeth' : T.vm.method? m = some meth := X.method'
  refine ⟨T.setFrames fs, ?_, .returned (some (.int 1)), hrun, hended, rfl, ⟨_, rfl⟩, hW, hframe⟩
  jvm_step X.here [X.here.top, hx, hb, hdg, hmeth', hr, ret, narrow_b1]
  (try refine ⟨rfl, ?_⟩); (try refine ⟨rfl, ?_⟩)
  first | (intro acts; rw [hret _ acts rfl rfl rfl]) | rw [hret _ _ rfl rfl rfl]
  exact Steps.refl _
/-- what holds at the law's entry: the machine, the code, the tables' words (any of lw_tbl by 'hts w (by decide +kernel)'), the script of L ints xs at the cell b, what the Statement gives of the start (any of its parts by flat_of_before) -/
def lw_At (p : Program) (s : State) (m : MethodId) (meth : Method) (c : Code) (b L : Nat) (xs : Nat → Int32) : Prop :=
  p.tables.exec = Jvm.exec ∧ c.code = code ∧ meth.sig.returnType = ret ∧ c.maxLocals = 4 ∧ s.vm.findClass R_law = some m.cls ∧ (∀ w ∈ lw_tbl, w.before #[Value.ref b] s = true) ∧ va_X b L xs s s.heap ∧ b < s.heap.size ∧ meth.locks = false ∧ (Jvm.Cond.and given_1 narrow_1).before #[Value.ref b] s = true
theorem dL_0 : decode code 0 = .ok (.new 7, 3) := by decide +kernel
theorem dL_3 : decode code 3 = .ok (.dup, 1) := by decide +kernel
theorem dL_4 : decode code 4 = .ok (.invokespecial 9, 3) := by decide +kernel
theorem dL_7 : decode code 7 = .ok (.astore_n 1, 1) := by decide +kernel
theorem dL_8 : decode code 8 = .ok (.new 10, 3) := by decide +kernel
theorem dL_11 : decode code 11 = .ok (.dup, 1) := by decide +kernel
theorem dL_12 : decode code 12 = .ok (.invokespecial 12, 3) := by decide +kernel
theorem dL_15 : decode code 15 = .ok (.astore_n 2, 1) := by decide +kernel
theorem dL_16 : decode code 16 = .ok (.iconst 0, 1) := by decide +kernel
theorem dL_17 : decode code 17 = .ok (.istore_n 3, 1) := by decide +kernel
/-! the start -/
def zs0 : Nat → Int := fun n => match n with | 4 => 3 | 6 => 2 | 7 => 3 | 9 => 2 | 10 => 1 | 11 => 1 | 15 => -1 | 17 => -1 | 19 => -1 | 21 => -1 | _ => 0
def zf_4 : Nat → Int32 := upd (upd (upd (upd (fun _ => 0) 0 1) 1 1) 2 1) 3 1
def zf_5 : Nat → Int32 := upd (upd (upd (upd (fun _ => 0) 0 1) 1 1) 2 1) 3 1
def zf_12 : Nat → Int32 := upd (upd (upd (upd (upd (upd (upd (fun _ => 0) 0 3) 2 2) 3 1) 5 1) 6 1) 7 1) 8 1
def zf_15 : Nat → Int32 := upd (upd (upd (upd (fun _ => 0) 0 (-1)) 1 (-1)) 2 (-1)) 3 (-1)
def za0 : Nat → Nat → Int := fun g => match g with | 4 => fun j => (zf_4 j).toInt | 5 => fun j => (zf_5 j).toInt | 12 => fun j => (zf_12 j).toInt | 15 => fun j => (zf_15 j).toInt | _ => fun _ => 0
def zm0 : zM := (zs0, za0)
theorem zfo_back (F : Nat → Int32) : (fun j => Int32.ofInt (F j).toInt) = F := funext fun j => Int32.ofInt_toInt _
theorem zm0_ok : zokM zm0 := by
  constructor
  · intro n
    show zi32 (zs0 n)
    unfold zs0
    split <;> (constructor <;> decide)
  · intro g j
    show zi32 (za0 g j)
    unfold za0
    split <;> first | exact zof32 _ | exact ⟨by show (-2147483648 : Int) ≤ 0; decide, by show (0 : Int) < 2147483648; decide⟩
theorem zm0_inv : zInv zm0 := by
  refine ⟨⟨3, 0, 2, 1, [], fun _ => 1, ⟨by unfold zbd; omega, by omega, by decide, fun x hx => (by cases hx), fun _ _ => ⟨by show (0 : Int) ≤ 1; decide, by show (1 : Int) ≤ 99; decide⟩⟩, ⟨⟨rfl, rfl, rfl⟩, ⟨rfl, fun k hk => absurd hk (Nat.not_lt_zero _)⟩, fun k hk => ?_, rfl⟩, ⟨rfl, rfl, rfl, rfl, rfl, fun k hk => ?_, fun k hk => absurd hk (Nat.not_lt_zero _)⟩⟩, Or.inl ⟨rfl, rfl⟩, ⟨by decide, by decide, rfl, fun k hk => ?_⟩, fun s hs => ?_⟩
  · rcases (show k = 0 ∨ k = 1 ∨ k = 2 ∨ k = 3 by omega) with rfl | rfl | rfl | rfl <;> rfl
  · rcases (show k = 0 ∨ k = 1 ∨ k = 2 ∨ k = 3 by omega) with rfl | rfl | rfl | rfl <;> rfl
  · exact absurd hk (show ¬ (k : Int) < 0 by omega)
  · rcases (show s = 0 ∨ s = 1 ∨ s = 2 ∨ s = 3 by omega) with rfl | rfl | rfl | rfl <;> exact ⟨by decide, rfl, by decide, rfl, fun k _ => rfl⟩
/-- where the places stand in the world made -/
def zpi : Nat → Nat := fun k => match k with | 0 => 0 | 1 => 1 | 2 => 2 | 3 => 3 | 4 => 4 | 5 => 5 | 6 => 6 | 7 => 7 | 8 => 8 | 9 => 9 | 10 => 10 | 11 => 11 | 12 => 12 | 13 => 13 | 14 => 19 | 15 => 20 | 16 => 21 | 17 => 22 | 18 => 23 | 19 => 24 | 20 => 25 | 21 => 26 | 22 => 14 | 23 => 15 | 24 => 16 | 25 => 17 | 26 => 18 | 27 => 27 | 28 => 28 | 29 => 29 | 30 => 30 | 31 => 31 | 32 => 32 | 33 => 33 | 34 => 34 | 35 => 35 | 36 => 36 | 37 => 37 | 38 => 38 | 39 => 39 | 40 => 40 | _ => 99
theorem zpi_inj : ∀ i, i < 41 → ∀ j, j < 41 → zpi i = zpi j → i = j := by decide +kernel
theorem zarrV_congr {c : ClassId} {n : Nat} {f g : Nat → Value} (h : ∀ j, j < n → f j = g j) : arrV c n f = arrV c n g := by
  have e : (fun j : Fin n => f j.val) = (fun j : Fin n => g j.val) := funext fun j => h j.val j.isLt
  unfold arrV
  rw [e]
set_option maxHeartbeats 1000000 in
set_option maxRecDepth 100000 in
theorem whole_start {p : Program} {e : Env} {s : State} {m : MethodId} {below : List Frame} {meth : Method} {c : Code} (l : Launch) (hflags : l.flags = flags0) {b L : Nat} {xs : Nat → Int32} (hL : L ≤ 3072) (C0 : lw_At p s m meth c b L xs) : W p l e room_1 s m #[Value.ref b] below meth c s.heap [] 0 0 (lw_Z below #[Value.ref b] s) (entryFrame m ([Value.ref b] : List Value).toArray 4) := by
  obtain ⟨hx, hb, hr, hml, hown, hts0, hX, hbl, hlocks, hgv⟩ := id C0
  have hts : ∀ w ∈ zGT, w.before #[Value.ref b] s = true := fun w hw => hts0 w (zGT_sub w hw)
  have hA : ∀ q : Nat, s.heap.size ≤ q → (fun q : Nat => s.heap.size ≤ q) q := fun _ h => h
  obtain ⟨c0, i0, hKn0⟩ := u_known (C := RX0) (T := TX0) (N := 2) (n := 2) hts zin_0 (hts (.instantiable RX0 2) (zGT_1 31 rfl rfl))
  obtain ⟨c1, i1, hKn1⟩ := u_known (C := RX1) (T := TX1) (N := 4) (n := 4) hts zin_1 (hts (.instantiable RX1 4) (zGT_1 48 rfl rfl))
  obtain ⟨c2, i2, hKn2⟩ := u_known (C := RX2) (T := TX2) (N := 3) (n := 3) hts zin_2 (hts (.instantiable RX2 3) (zGT_1 100 rfl rfl))
  obtain ⟨c3, i3, hKn3⟩ := u_known (C := RX3) (T := TX3) (N := 3) (n := 3) hts zin_3 (hts (.instantiable RX3 3) (zGT_1 25 rfl rfl))
  obtain ⟨c4, i4, hKn4⟩ := u_known (C := RX4) (T := TX4) (N := 2) (n := 2) hts zin_4 (hts (.instantiable RX4 2) (zGT_1 83 rfl rfl))
  obtain ⟨c5, i5, hKn5⟩ := u_known (C := RX5) (T := TX5) (N := 8) (n := 8) hts zin_5 (hts (.instantiable RX5 8) (zGT_1 17 rfl rfl))
  obtain ⟨c6, i6, hKn6⟩ := u_known (C := RX6) (T := TX6) (N := 15) (n := 15) hts zin_6 (hts (.instantiable RX6 15) (zGT_3 76 rfl rfl))
  obtain ⟨D, hKc⟩ : ∃ D : va_G, ∀ (k : Nat) (q : vw_C), vwCl[k]? = some q → u_Kn s q.1 q.2.1 q.2.2 (D.1 k) (D.2 k) := by
    refine ⟨(fun k => match k with | 0 => c0 | 1 => c1 | 2 => c2 | 3 => c3 | 4 => c4 | 5 => c5 | _ => c6, fun k => match k with | 0 => i0 | 1 => i1 | 2 => i2 | 3 => i3 | 4 => i4 | 5 => i5 | _ => i6), ?_⟩
    intro k q hq
    match k, hq with
    | 0, hq => cases hq; exact hKn0
    | 1, hq => cases hq; exact hKn1
    | 2, hq => cases hq; exact hKn2
    | 3, hq => cases hq; exact hKn3
    | 4, hq => cases hq; exact hKn4
    | 5, hq => cases hq; exact hKn5
    | 6, hq => cases hq; exact hKn6
    | k + 7, hq => simp [vwCl] at hq
  obtain ⟨a0, ka0, co0, f0, g0, j0⟩ := Cond.arrayClass_spec (hts (.arrayClass .int) (zGT_1 46 rfl rfl))
  obtain ⟨a1, ka1, co1, f1, g1, j1⟩ := Cond.arrayClass_spec (hts (.arrayClass .boolean) (zGT_3 127 rfl rfl))
  obtain ⟨co2, a2, ka2, e2, _, g2, j2, f2⟩ := Cond.arrayOver_spec (hts0 (.arrayOver (.object "PaleFence$Sheet")) (zTB_1 97 rfl))
  obtain ⟨dA, hK⟩ : ∃ dA : Nat → Nat, va_K D vwCl (ztys dA) s := by
    refine ⟨fun k => match k with | 0 => a0 | 1 => a1 | _ => a2, hKc, fun k q h => ?_⟩
    match k, h with
    | 0, h => cases h; exact ⟨fun n z => ⟨fun k h => (by cases h), ka0, g0, co0, j0⟩, f0⟩
    | 1, h => cases h; exact ⟨fun n z => ⟨fun k h => (by cases h), ka1, g1, co1, j1⟩, f1⟩
    | 2, h => cases h; exact ⟨fun n z => ⟨fun k h => (by cases h), ka2, g2, co2, j2⟩, ka2, co2, g2, j2, e2, f2⟩
    | k + 3, h => simp [ztys] at h
  have hN : zNI s := ⟨va_AO.of (hts0 (.arrayOver (.object "PaleFence$Sheet")) (zTB_1 97 rfl)), va_Nw.of rfl (hts0 (.methodLinkNest "PaleFence" 9 yX3_init "PaleFence") (zTB_1 26 rfl)), va_Nw.of rfl (hts0 (.methodLinkNest "PaleFence" 21 yX4_init "PaleFence") (zTB_1 84 rfl)), va_Nw.of rfl (hts0 (.methodLinkNest "PaleFence" 34 yX0_init "PaleFence") (zTB_1 99 rfl)), va_Nw.of rfl (hts0 (.methodLinkNest "PaleFence" 46 yX2_init "PaleFence") (zTB_1 101 rfl)), va_Nw.of rfl (hts0 (.methodLinkNest "PaleFence$State" 9 yX0_init "PaleFence") (zTB_1 32 rfl)), va_Nw.of rfl (hts0 (.methodLinkNest "PaleFence$State" 18 yX1_init "PaleFence") (zTB_1 49 rfl))⟩
  have hNW : zNW s := ⟨fun q hq h => va_Nw.of rfl (hts0 _ ((zfok q hq).2.2 (by omega)).2), fun q hq h => va_Nw.of rfl (hts0 _ ((zcok q hq).2.2 (by omega)).2)⟩
  have hq := flat_of_before _ hgv
  have hnA : ∀ a : Nat, a < s.heap.size → ¬ (fun q : Nat => s.heap.size ≤ q) a := fun a h => Nat.not_le.mpr h
  have hZ : va_Z "java/lang/String" "COMPACT_STRINGS" "Z" (.int 1) (fun q : Nat => s.heap.size ≤ q) s s.heap := va_Zof (hts0 (.laysStatic "java/lang/String" "COMPACT_STRINGS" "Z") (zTB_2 35 rfl)) (hts (.initialized "java/lang/String") (zGT_1 10 rfl rfl)) (va_eqt (hq (.eq (.static "java/lang/String" "COMPACT_STRINGS" "Z") (.int 1)) (by decide +kernel))) hnA
  obtain ⟨aK, aV, hSt, hev⟩ := vk_Sof (args := #[Value.ref b]) (N := 1) (tm := fun _ => .string "PaleFence" 112) (len := [4]) (byt := zstrB) (fun i hi => by rcases (show i = 0 by omega) with rfl; decide +kernel) (fun i hi => hq (.exactly (.string "PaleFence" 112) "java/lang/String") (by decide +kernel)) (fun i hi => hq (.eq (.field (.string "PaleFence" 112) "java/lang/String" "coder" "B") (.int 0)) (by decide +kernel)) (fun i hi => hq (.arrayOf (.field (.string "PaleFence" 112) "java/lang/String" "value" "[B") .byte) (by decide +kernel)) (fun i hi => by rcases (show i = 0 by omega) with rfl; exact hq (.eq (.length (.field (.string "PaleFence" 112) "java/lang/String" "value" "[B")) (.int 4)) (by decide +kernel)) (fun i hi j hj => by
      rcases (show i = 0 by omega) with rfl
      have hj4 : j < 4 := hj
      rcases (show j = 0 ∨ j = 1 ∨ j = 2 ∨ j = 3 by omega) with rfl | rfl | rfl | rfl
      · exact hq (.eq (.elem (.field (.string "PaleFence" 112) "java/lang/String" "value" "[B") (.int 0)) (.int 114)) (by decide +kernel)
      · exact hq (.eq (.elem (.field (.string "PaleFence" 112) "java/lang/String" "value" "[B") (.int 1)) (.int 119)) (by decide +kernel)
      · exact hq (.eq (.elem (.field (.string "PaleFence" 112) "java/lang/String" "value" "[B") (.int 2)) (.int 98)) (by decide +kernel)
      · exact hq (.eq (.elem (.field (.string "PaleFence" 112) "java/lang/String" "value" "[B") (.int 3)) (.int 103)) (by decide +kernel)) (fun i j hi hj hij => absurd (show i = j by omega) hij) hnA
  have hRf : vk_R "PaleFence" 112 "rwbg" (aK 0) s := vk_R.of (hts0 (.stringRef "PaleFence" 112 "rwbg") (zTB_2 21 rfl)) (hev 0 (by omega))
  have hS : va_S (fun q : Nat => s.heap.size ≤ q) s.heap s.heap [] := va_S.rf
  have hP : va_P D vwCl [] s.heap := fun k q h => by simp at h
  have hD : va_D (fun q : Nat => s.heap.size ≤ q) [] := ⟨fun i j p q h => by simp at h, fun k q h => by simp at h⟩
  have hl := lv_entry ([.ref b]) (n := 4) (Nat.le_of_ble_eq_true rfl)
  rw [lg_entry_eq]
  generalize (lg_sl ([.ref b]) ++ List.replicate (4 - (lg_sl ([.ref b])).length) Slot.unset).toArray = ls at hl ⊢
  have hl : lv_has ls 4 [(0, .ref b)] := hl
  refine va_new (D := D) (ci := 5) (fs := [.null, .null, .int 0, .null, .null, .null, .null, .null]) (own := "PaleFenceLaw") (C := RX5) (T := TX5) (N := 8) hx hb hts zin_5 tyX5 tyX5_ok hown (hts (.classLink "PaleFenceLaw" 7 RX5) (zGT_1 16 rfl rfl)) (hts (.instantiable RX5 8) (zGT_1 17 rfl rfl)) (hts (.initialized RX5) (zGT_1 1 rfl rfl)) hK hP hD hS hA rfl (fun j hj => by rcases (show j = 0 ∨ j = 1 ∨ j = 2 ∨ j = 3 ∨ j = 4 ∨ j = 5 ∨ j = 6 ∨ j = 7 by omega) with rfl | rfl | rfl | rfl | rfl | rfl | rfl | rfl <;> rfl) (Nat.le_of_ble_eq_true rfl) (Nat.le_of_ble_eq_true rfl) dL_0 (fun q1 H hP hD hS => ?_)
  have hP : va_P D vwCl [(q1, .inr (5, [.null, .null, .int 0, .null, .null, .null, .null, .null]))] H := hP
  have hD : va_D (fun q : Nat => s.heap.size ≤ q) [(q1, .inr (5, [.null, .null, .int 0, .null, .null, .null, .null, .null]))] := hD
  refine W.widen (k := 1) (n := 8) (by omega) (by omega) ?_
  refine lv_dup hx hb dL_3 rfl ?_
  refine zv_call (va_runI (As := []) (rest := [.ref q1]) ⟨hx, hb, hml, hown, hts⟩ (zc_5 l D dA q1 H.size) (cwI (own := "PaleFenceLaw") 0 hts (zgi (zGT_1 20 rfl rfl)) rfl rfl rfl (hts (.initialized RX5) (zGT_1 1 rfl rfl)) (hts (.methodLink "PaleFenceLaw" 9 yX5_init) (zGT_1 18 rfl rfl)) (hts (.instanceMethod yX5_init) (zGT_1 19 rfl rfl)) rfl ⟨by decide +kernel, by decide +kernel, by decide +kernel⟩ ⟨(Nat.le_of_ble_eq_true rfl), (Nat.le_of_ble_eq_true rfl)⟩) (zv_pre (hP.sub [0] rfl) hK hN (hD.sub [0] (by decide) rfl)) rfl rfl hl.1 rfl (lv_room (Nat.le_of_ble_eq_true rfl)) dL_4 ⟨(Nat.le_of_ble_eq_true rfl), (Nat.le_of_ble_eq_true rfl)⟩) hP hD hS hA 0 rfl (wr := []) [] rfl (by decide) (by decide) (fun u2 H locs hP hD hS => ?_)
  have hP : va_P D vwCl [(q1, .inr (5, [.ref (u2 1), .ref (u2 6), .int 0, .ref (u2 11), .ref (u2 13), .ref (u2 14), .ref (u2 16), .ref (u2 18)])), ((u2 1), .inr (3, [.ref (u2 2), .ref (u2 4), .int 1])), ((u2 2), .inr (0, [.ref (u2 3), .int 0])), ((u2 3), .inl (dA 0, 72, .inl (fun _ => 0))), ((u2 4), .inr (1, [.int 3, .int 0, .int 2, .ref (u2 5)])), ((u2 5), .inl (dA 0, 4, .inl (upd (upd (upd (upd (fun _ => 0) 0 1) 1 1) 2 1) 3 1))), ((u2 6), .inr (3, [.ref (u2 7), .ref (u2 9), .int 1])), ((u2 7), .inr (0, [.ref (u2 8), .int 0])), ((u2 8), .inl (dA 0, 72, .inl (fun _ => 0))), ((u2 9), .inr (1, [.int 3, .int 0, .int 2, .ref (u2 10)])), ((u2 10), .inl (dA 0, 4, .inl (upd (upd (upd (upd (fun _ => 0) 0 1) 1 1) 2 1) 3 1))), ((u2 11), .inr (4, [.ref (u2 12), .int 0])), ((u2 12), .inl (dA 0, 100, .inl (fun _ => 0))), ((u2 13), .inl (dA 2, 4, .inr (.inr (.inr (.inr (va_up (va_up (va_up (va_up (fun _ => none) 0 (some (u2 19))) 1 (some (u2 21))) 2 (some (u2 23))) 3 (some (u2 25)))))))), ((u2 14), .inr (0, [.ref (u2 15), .int 0])), ((u2 15), .inl (dA 0, 72, .inl (fun _ => 0))), ((u2 16), .inr (0, [.ref (u2 17), .int 0])), ((u2 17), .inl (dA 0, 72, .inl (fun _ => 0))), ((u2 18), .inl (dA 0, 4, .inl (fun _ => 0))), ((u2 19), .inr (2, [.ref (u2 20), .int 0, .int (-1)])), ((u2 20), .inl (dA 0, 48, .inl (fun _ => 0))), ((u2 21), .inr (2, [.ref (u2 22), .int 0, .int (-1)])), ((u2 22), .inl (dA 0, 48, .inl (fun _ => 0))), ((u2 23), .inr (2, [.ref (u2 24), .int 0, .int (-1)])), ((u2 24), .inl (dA 0, 48, .inl (fun _ => 0))), ((u2 25), .inr (2, [.ref (u2 26), .int 0, .int (-1)])), ((u2 26), .inl (dA 0, 48, .inl (fun _ => 0)))] H := hP
  have hD : va_D (fun q : Nat => s.heap.size ≤ q) [(q1, .inr (5, [.ref (u2 1), .ref (u2 6), .int 0, .ref (u2 11), .ref (u2 13), .ref (u2 14), .ref (u2 16), .ref (u2 18)])), ((u2 1), .inr (3, [.ref (u2 2), .ref (u2 4), .int 1])), ((u2 2), .inr (0, [.ref (u2 3), .int 0])), ((u2 3), .inl (dA 0, 72, .inl (fun _ => 0))), ((u2 4), .inr (1, [.int 3, .int 0, .int 2, .ref (u2 5)])), ((u2 5), .inl (dA 0, 4, .inl (upd (upd (upd (upd (fun _ => 0) 0 1) 1 1) 2 1) 3 1))), ((u2 6), .inr (3, [.ref (u2 7), .ref (u2 9), .int 1])), ((u2 7), .inr (0, [.ref (u2 8), .int 0])), ((u2 8), .inl (dA 0, 72, .inl (fun _ => 0))), ((u2 9), .inr (1, [.int 3, .int 0, .int 2, .ref (u2 10)])), ((u2 10), .inl (dA 0, 4, .inl (upd (upd (upd (upd (fun _ => 0) 0 1) 1 1) 2 1) 3 1))), ((u2 11), .inr (4, [.ref (u2 12), .int 0])), ((u2 12), .inl (dA 0, 100, .inl (fun _ => 0))), ((u2 13), .inl (dA 2, 4, .inr (.inr (.inr (.inr (va_up (va_up (va_up (va_up (fun _ => none) 0 (some (u2 19))) 1 (some (u2 21))) 2 (some (u2 23))) 3 (some (u2 25)))))))), ((u2 14), .inr (0, [.ref (u2 15), .int 0])), ((u2 15), .inl (dA 0, 72, .inl (fun _ => 0))), ((u2 16), .inr (0, [.ref (u2 17), .int 0])), ((u2 17), .inl (dA 0, 72, .inl (fun _ => 0))), ((u2 18), .inl (dA 0, 4, .inl (fun _ => 0))), ((u2 19), .inr (2, [.ref (u2 20), .int 0, .int (-1)])), ((u2 20), .inl (dA 0, 48, .inl (fun _ => 0))), ((u2 21), .inr (2, [.ref (u2 22), .int 0, .int (-1)])), ((u2 22), .inl (dA 0, 48, .inl (fun _ => 0))), ((u2 23), .inr (2, [.ref (u2 24), .int 0, .int (-1)])), ((u2 24), .inl (dA 0, 48, .inl (fun _ => 0))), ((u2 25), .inr (2, [.ref (u2 26), .int 0, .int (-1)])), ((u2 26), .inl (dA 0, 48, .inl (fun _ => 0)))] := hD
  refine W.widen (k := 27) (n := 640) (by omega) (by omega) ?_
  refine lv_astore_n (lv' := [(1, .ref q1), (0, .ref b)]) hx hb dL_7 rfl hl (by decide) rfl (fun ls hl => ?_)
  refine va_new (D := D) (ci := 6) (fs := [.null, .null, .int 0, .null, .int 0, .null, .null, .null, .null, .null, .null, .null, .null, .null, .null]) (own := "PaleFenceLaw") (C := RX6) (T := TX6) (N := 15) hx hb hts zin_6 tyX6 tyX6_ok hown (hts (.classLink "PaleFenceLaw" 10 RX6) (zGT_3 75 rfl rfl)) (hts (.instantiable RX6 15) (zGT_3 76 rfl rfl)) (hts (.initialized RX6) (zGT_1 7 rfl rfl)) hK hP hD hS hA rfl (fun j hj => by rcases (show j = 0 ∨ j = 1 ∨ j = 2 ∨ j = 3 ∨ j = 4 ∨ j = 5 ∨ j = 6 ∨ j = 7 ∨ j = 8 ∨ j = 9 ∨ j = 10 ∨ j = 11 ∨ j = 12 ∨ j = 13 ∨ j = 14 by omega) with rfl | rfl | rfl | rfl | rfl | rfl | rfl | rfl | rfl | rfl | rfl | rfl | rfl | rfl | rfl <;> rfl) (Nat.le_of_ble_eq_true rfl) (Nat.le_of_ble_eq_true rfl) dL_8 (fun q3 H hP hD hS => ?_)
  have hP : va_P D vwCl [(q1, .inr (5, [.ref (u2 1), .ref (u2 6), .int 0, .ref (u2 11), .ref (u2 13), .ref (u2 14), .ref (u2 16), .ref (u2 18)])), ((u2 1), .inr (3, [.ref (u2 2), .ref (u2 4), .int 1])), ((u2 2), .inr (0, [.ref (u2 3), .int 0])), ((u2 3), .inl (dA 0, 72, .inl (fun _ => 0))), ((u2 4), .inr (1, [.int 3, .int 0, .int 2, .ref (u2 5)])), ((u2 5), .inl (dA 0, 4, .inl (upd (upd (upd (upd (fun _ => 0) 0 1) 1 1) 2 1) 3 1))), ((u2 6), .inr (3, [.ref (u2 7), .ref (u2 9), .int 1])), ((u2 7), .inr (0, [.ref (u2 8), .int 0])), ((u2 8), .inl (dA 0, 72, .inl (fun _ => 0))), ((u2 9), .inr (1, [.int 3, .int 0, .int 2, .ref (u2 10)])), ((u2 10), .inl (dA 0, 4, .inl (upd (upd (upd (upd (fun _ => 0) 0 1) 1 1) 2 1) 3 1))), ((u2 11), .inr (4, [.ref (u2 12), .int 0])), ((u2 12), .inl (dA 0, 100, .inl (fun _ => 0))), ((u2 13), .inl (dA 2, 4, .inr (.inr (.inr (.inr (va_up (va_up (va_up (va_up (fun _ => none) 0 (some (u2 19))) 1 (some (u2 21))) 2 (some (u2 23))) 3 (some (u2 25)))))))), ((u2 14), .inr (0, [.ref (u2 15), .int 0])), ((u2 15), .inl (dA 0, 72, .inl (fun _ => 0))), ((u2 16), .inr (0, [.ref (u2 17), .int 0])), ((u2 17), .inl (dA 0, 72, .inl (fun _ => 0))), ((u2 18), .inl (dA 0, 4, .inl (fun _ => 0))), ((u2 19), .inr (2, [.ref (u2 20), .int 0, .int (-1)])), ((u2 20), .inl (dA 0, 48, .inl (fun _ => 0))), ((u2 21), .inr (2, [.ref (u2 22), .int 0, .int (-1)])), ((u2 22), .inl (dA 0, 48, .inl (fun _ => 0))), ((u2 23), .inr (2, [.ref (u2 24), .int 0, .int (-1)])), ((u2 24), .inl (dA 0, 48, .inl (fun _ => 0))), ((u2 25), .inr (2, [.ref (u2 26), .int 0, .int (-1)])), ((u2 26), .inl (dA 0, 48, .inl (fun _ => 0))), (q3, .inr (6, [.null, .null, .int 0, .null, .int 0, .null, .null, .null, .null, .null, .null, .null, .null, .null, .null]))] H := hP
  have hD : va_D (fun q : Nat => s.heap.size ≤ q) [(q1, .inr (5, [.ref (u2 1), .ref (u2 6), .int 0, .ref (u2 11), .ref (u2 13), .ref (u2 14), .ref (u2 16), .ref (u2 18)])), ((u2 1), .inr (3, [.ref (u2 2), .ref (u2 4), .int 1])), ((u2 2), .inr (0, [.ref (u2 3), .int 0])), ((u2 3), .inl (dA 0, 72, .inl (fun _ => 0))), ((u2 4), .inr (1, [.int 3, .int 0, .int 2, .ref (u2 5)])), ((u2 5), .inl (dA 0, 4, .inl (upd (upd (upd (upd (fun _ => 0) 0 1) 1 1) 2 1) 3 1))), ((u2 6), .inr (3, [.ref (u2 7), .ref (u2 9), .int 1])), ((u2 7), .inr (0, [.ref (u2 8), .int 0])), ((u2 8), .inl (dA 0, 72, .inl (fun _ => 0))), ((u2 9), .inr (1, [.int 3, .int 0, .int 2, .ref (u2 10)])), ((u2 10), .inl (dA 0, 4, .inl (upd (upd (upd (upd (fun _ => 0) 0 1) 1 1) 2 1) 3 1))), ((u2 11), .inr (4, [.ref (u2 12), .int 0])), ((u2 12), .inl (dA 0, 100, .inl (fun _ => 0))), ((u2 13), .inl (dA 2, 4, .inr (.inr (.inr (.inr (va_up (va_up (va_up (va_up (fun _ => none) 0 (some (u2 19))) 1 (some (u2 21))) 2 (some (u2 23))) 3 (some (u2 25)))))))), ((u2 14), .inr (0, [.ref (u2 15), .int 0])), ((u2 15), .inl (dA 0, 72, .inl (fun _ => 0))), ((u2 16), .inr (0, [.ref (u2 17), .int 0])), ((u2 17), .inl (dA 0, 72, .inl (fun _ => 0))), ((u2 18), .inl (dA 0, 4, .inl (fun _ => 0))), ((u2 19), .inr (2, [.ref (u2 20), .int 0, .int (-1)])), ((u2 20), .inl (dA 0, 48, .inl (fun _ => 0))), ((u2 21), .inr (2, [.ref (u2 22), .int 0, .int (-1)])), ((u2 22), .inl (dA 0, 48, .inl (fun _ => 0))), ((u2 23), .inr (2, [.ref (u2 24), .int 0, .int (-1)])), ((u2 24), .inl (dA 0, 48, .inl (fun _ => 0))), ((u2 25), .inr (2, [.ref (u2 26), .int 0, .int (-1)])), ((u2 26), .inl (dA 0, 48, .inl (fun _ => 0))), (q3, .inr (6, [.null, .null, .int 0, .null, .int 0, .null, .null, .null, .null, .null, .null, .null, .null, .null, .null]))] := hD
  refine W.widen (k := 28) (n := 655) (by omega) (by omega) ?_
  refine lv_dup hx hb dL_11 rfl ?_
  refine zv_call (va_runI (As := []) (rest := [.ref q3]) ⟨hx, hb, hml, hown, hts⟩ (zc_6 l D dA q3 H.size) (cwI (own := "PaleFenceLaw") 0 hts (zgi (zGT_3 79 rfl rfl)) rfl rfl rfl (hts (.initialized RX6) (zGT_1 7 rfl rfl)) (hts (.methodLink "PaleFenceLaw" 12 yX6_init) (zGT_3 77 rfl rfl)) (hts (.instanceMethod yX6_init) (zGT_3 78 rfl rfl)) rfl ⟨by decide +kernel, by decide +kernel, by decide +kernel⟩ ⟨(Nat.le_of_ble_eq_true rfl), (Nat.le_of_ble_eq_true rfl)⟩) (zv_pre (hP.sub [27] rfl) hK hN (hD.sub [27] (by decide) rfl)) rfl rfl hl.1 rfl (lv_room (Nat.le_of_ble_eq_true rfl)) dL_12 ⟨(Nat.le_of_ble_eq_true rfl), (Nat.le_of_ble_eq_true rfl)⟩) hP hD hS hA 27 rfl (wr := [(q1, .inr (5, [.ref (u2 1), .ref (u2 6), .int 0, .ref (u2 11), .ref (u2 13), .ref (u2 14), .ref (u2 16), .ref (u2 18)])), ((u2 1), .inr (3, [.ref (u2 2), .ref (u2 4), .int 1])), ((u2 2), .inr (0, [.ref (u2 3), .int 0])), ((u2 3), .inl (dA 0, 72, .inl (fun _ => 0))), ((u2 4), .inr (1, [.int 3, .int 0, .int 2, .ref (u2 5)])), ((u2 5), .inl (dA 0, 4, .inl (upd (upd (upd (upd (fun _ => 0) 0 1) 1 1) 2 1) 3 1))), ((u2 6), .inr (3, [.ref (u2 7), .ref (u2 9), .int 1])), ((u2 7), .inr (0, [.ref (u2 8), .int 0])), ((u2 8), .inl (dA 0, 72, .inl (fun _ => 0))), ((u2 9), .inr (1, [.int 3, .int 0, .int 2, .ref (u2 10)])), ((u2 10), .inl (dA 0, 4, .inl (upd (upd (upd (upd (fun _ => 0) 0 1) 1 1) 2 1) 3 1))), ((u2 11), .inr (4, [.ref (u2 12), .int 0])), ((u2 12), .inl (dA 0, 100, .inl (fun _ => 0))), ((u2 13), .inl (dA 2, 4, .inr (.inr (.inr (.inr (va_up (va_up (va_up (va_up (fun _ => none) 0 (some (u2 19))) 1 (some (u2 21))) 2 (some (u2 23))) 3 (some (u2 25)))))))), ((u2 14), .inr (0, [.ref (u2 15), .int 0])), ((u2 15), .inl (dA 0, 72, .inl (fun _ => 0))), ((u2 16), .inr (0, [.ref (u2 17), .int 0])), ((u2 17), .inl (dA 0, 72, .inl (fun _ => 0))), ((u2 18), .inl (dA 0, 4, .inl (fun _ => 0))), ((u2 19), .inr (2, [.ref (u2 20), .int 0, .int (-1)])), ((u2 20), .inl (dA 0, 48, .inl (fun _ => 0))), ((u2 21), .inr (2, [.ref (u2 22), .int 0, .int (-1)])), ((u2 22), .inl (dA 0, 48, .inl (fun _ => 0))), ((u2 23), .inr (2, [.ref (u2 24), .int 0, .int (-1)])), ((u2 24), .inl (dA 0, 48, .inl (fun _ => 0))), ((u2 25), .inr (2, [.ref (u2 26), .int 0, .int (-1)])), ((u2 26), .inl (dA 0, 48, .inl (fun _ => 0)))]) [0, 1, 2, 3, 4, 5, 6, 7, 8, 9, 10, 11, 12, 13, 14, 15, 16, 17, 18, 19, 20, 21, 22, 23, 24, 25, 26] rfl (by decide) (by decide) (fun u4 H locs hP hD hS => ?_)
  have hP : va_P D vwCl [(q1, .inr (5, [.ref (u2 1), .ref (u2 6), .int 0, .ref (u2 11), .ref (u2 13), .ref (u2 14), .ref (u2 16), .ref (u2 18)])), ((u2 1), .inr (3, [.ref (u2 2), .ref (u2 4), .int 1])), ((u2 2), .inr (0, [.ref (u2 3), .int 0])), ((u2 3), .inl (dA 0, 72, .inl (fun _ => 0))), ((u2 4), .inr (1, [.int 3, .int 0, .int 2, .ref (u2 5)])), ((u2 5), .inl (dA 0, 4, .inl (upd (upd (upd (upd (fun _ => 0) 0 1) 1 1) 2 1) 3 1))), ((u2 6), .inr (3, [.ref (u2 7), .ref (u2 9), .int 1])), ((u2 7), .inr (0, [.ref (u2 8), .int 0])), ((u2 8), .inl (dA 0, 72, .inl (fun _ => 0))), ((u2 9), .inr (1, [.int 3, .int 0, .int 2, .ref (u2 10)])), ((u2 10), .inl (dA 0, 4, .inl (upd (upd (upd (upd (fun _ => 0) 0 1) 1 1) 2 1) 3 1))), ((u2 11), .inr (4, [.ref (u2 12), .int 0])), ((u2 12), .inl (dA 0, 100, .inl (fun _ => 0))), ((u2 13), .inl (dA 2, 4, .inr (.inr (.inr (.inr (va_up (va_up (va_up (va_up (fun _ => none) 0 (some (u2 19))) 1 (some (u2 21))) 2 (some (u2 23))) 3 (some (u2 25)))))))), ((u2 14), .inr (0, [.ref (u2 15), .int 0])), ((u2 15), .inl (dA 0, 72, .inl (fun _ => 0))), ((u2 16), .inr (0, [.ref (u2 17), .int 0])), ((u2 17), .inl (dA 0, 72, .inl (fun _ => 0))), ((u2 18), .inl (dA 0, 4, .inl (fun _ => 0))), ((u2 19), .inr (2, [.ref (u2 20), .int 0, .int (-1)])), ((u2 20), .inl (dA 0, 48, .inl (fun _ => 0))), ((u2 21), .inr (2, [.ref (u2 22), .int 0, .int (-1)])), ((u2 22), .inl (dA 0, 48, .inl (fun _ => 0))), ((u2 23), .inr (2, [.ref (u2 24), .int 0, .int (-1)])), ((u2 24), .inl (dA 0, 48, .inl (fun _ => 0))), ((u2 25), .inr (2, [.ref (u2 26), .int 0, .int (-1)])), ((u2 26), .inl (dA 0, 48, .inl (fun _ => 0))), (q3, .inr (6, [.ref (u4 1), .ref (u4 2), .int 0, .ref (u4 3), .int 0, .ref (u4 4), .ref (u4 5), .ref (u4 6), .ref (u4 7), .ref (u4 8), .ref (u4 9), .ref (u4 10), .ref (u4 11), .ref (u4 12), .ref (u4 13)])), ((u4 1), .inl (dA 0, 57, .inl (upd (upd (upd (upd (upd (upd (upd (fun _ => 0) 0 3) 2 2) 3 1) 5 1) 6 1) 7 1) 8 1))), ((u4 2), .inl (dA 0, 57, .inl (fun _ => 0))), ((u4 3), .inl (dA 0, 100, .inl (fun _ => 0))), ((u4 4), .inl (dA 0, 4, .inl (upd (upd (upd (upd (fun _ => 0) 0 (-1)) 1 (-1)) 2 (-1)) 3 (-1)))), ((u4 5), .inl (dA 0, 4, .inl (fun _ => 0))), ((u4 6), .inl (dA 0, 192, .inl (fun _ => 0))), ((u4 7), .inl (dA 0, 80, .inl (fun _ => 0))), ((u4 8), .inl (dA 0, 4, .inl (fun _ => 0))), ((u4 9), .inl (dA 0, 24, .inl (fun _ => 0))), ((u4 10), .inl (dA 0, 8, .inl (fun _ => 0))), ((u4 11), .inl (dA 1, 9, .inl (fun _ => 0))), ((u4 12), .inl (dA 1, 9, .inl (fun _ => 0))), ((u4 13), .inl (dA 1, 9, .inl (fun _ => 0)))] H := hP
  have hD : va_D (fun q : Nat => s.heap.size ≤ q) [(q1, .inr (5, [.ref (u2 1), .ref (u2 6), .int 0, .ref (u2 11), .ref (u2 13), .ref (u2 14), .ref (u2 16), .ref (u2 18)])), ((u2 1), .inr (3, [.ref (u2 2), .ref (u2 4), .int 1])), ((u2 2), .inr (0, [.ref (u2 3), .int 0])), ((u2 3), .inl (dA 0, 72, .inl (fun _ => 0))), ((u2 4), .inr (1, [.int 3, .int 0, .int 2, .ref (u2 5)])), ((u2 5), .inl (dA 0, 4, .inl (upd (upd (upd (upd (fun _ => 0) 0 1) 1 1) 2 1) 3 1))), ((u2 6), .inr (3, [.ref (u2 7), .ref (u2 9), .int 1])), ((u2 7), .inr (0, [.ref (u2 8), .int 0])), ((u2 8), .inl (dA 0, 72, .inl (fun _ => 0))), ((u2 9), .inr (1, [.int 3, .int 0, .int 2, .ref (u2 10)])), ((u2 10), .inl (dA 0, 4, .inl (upd (upd (upd (upd (fun _ => 0) 0 1) 1 1) 2 1) 3 1))), ((u2 11), .inr (4, [.ref (u2 12), .int 0])), ((u2 12), .inl (dA 0, 100, .inl (fun _ => 0))), ((u2 13), .inl (dA 2, 4, .inr (.inr (.inr (.inr (va_up (va_up (va_up (va_up (fun _ => none) 0 (some (u2 19))) 1 (some (u2 21))) 2 (some (u2 23))) 3 (some (u2 25)))))))), ((u2 14), .inr (0, [.ref (u2 15), .int 0])), ((u2 15), .inl (dA 0, 72, .inl (fun _ => 0))), ((u2 16), .inr (0, [.ref (u2 17), .int 0])), ((u2 17), .inl (dA 0, 72, .inl (fun _ => 0))), ((u2 18), .inl (dA 0, 4, .inl (fun _ => 0))), ((u2 19), .inr (2, [.ref (u2 20), .int 0, .int (-1)])), ((u2 20), .inl (dA 0, 48, .inl (fun _ => 0))), ((u2 21), .inr (2, [.ref (u2 22), .int 0, .int (-1)])), ((u2 22), .inl (dA 0, 48, .inl (fun _ => 0))), ((u2 23), .inr (2, [.ref (u2 24), .int 0, .int (-1)])), ((u2 24), .inl (dA 0, 48, .inl (fun _ => 0))), ((u2 25), .inr (2, [.ref (u2 26), .int 0, .int (-1)])), ((u2 26), .inl (dA 0, 48, .inl (fun _ => 0))), (q3, .inr (6, [.ref (u4 1), .ref (u4 2), .int 0, .ref (u4 3), .int 0, .ref (u4 4), .ref (u4 5), .ref (u4 6), .ref (u4 7), .ref (u4 8), .ref (u4 9), .ref (u4 10), .ref (u4 11), .ref (u4 12), .ref (u4 13)])), ((u4 1), .inl (dA 0, 57, .inl (upd (upd (upd (upd (upd (upd (upd (fun _ => 0) 0 3) 2 2) 3 1) 5 1) 6 1) 7 1) 8 1))), ((u4 2), .inl (dA 0, 57, .inl (fun _ => 0))), ((u4 3), .inl (dA 0, 100, .inl (fun _ => 0))), ((u4 4), .inl (dA 0, 4, .inl (upd (upd (upd (upd (fun _ => 0) 0 (-1)) 1 (-1)) 2 (-1)) 3 (-1)))), ((u4 5), .inl (dA 0, 4, .inl (fun _ => 0))), ((u4 6), .inl (dA 0, 192, .inl (fun _ => 0))), ((u4 7), .inl (dA 0, 80, .inl (fun _ => 0))), ((u4 8), .inl (dA 0, 4, .inl (fun _ => 0))), ((u4 9), .inl (dA 0, 24, .inl (fun _ => 0))), ((u4 10), .inl (dA 0, 8, .inl (fun _ => 0))), ((u4 11), .inl (dA 1, 9, .inl (fun _ => 0))), ((u4 12), .inl (dA 1, 9, .inl (fun _ => 0))), ((u4 13), .inl (dA 1, 9, .inl (fun _ => 0)))] := hD
  refine W.widen (k := 41) (n := 1212) (by omega) (by omega) ?_
  refine lv_astore_n (lv' := [(2, .ref q3), (1, .ref q1), (0, .ref b)]) hx hb dL_15 rfl hl (by decide) rfl (fun ls hl => ?_)
  refine lv_iconst (v := 0) hx hb dL_16 (by decide +kernel) ?_
  refine lv_istore_n (lv' := [(3, .int 0), (2, .ref q3), (1, .ref q1), (0, .ref b)]) hx hb dL_17 rfl hl (by decide) rfl (fun ls hl => ?_)
  obtain ⟨ad, hade⟩ : ∃ ad : Nat → Nat, ad = fun k => match k with | 0 => q1 | 1 => (u2 1) | 2 => (u2 2) | 3 => (u2 3) | 4 => (u2 4) | 5 => (u2 5) | 6 => (u2 6) | 7 => (u2 7) | 8 => (u2 8) | 9 => (u2 9) | 10 => (u2 10) | 11 => (u2 11) | 12 => (u2 12) | 13 => (u2 13) | 14 => (u2 19) | 15 => (u2 20) | 16 => (u2 21) | 17 => (u2 22) | 18 => (u2 23) | 19 => (u2 24) | 20 => (u2 25) | 21 => (u2 26) | 22 => (u2 14) | 23 => (u2 15) | 24 => (u2 16) | 25 => (u2 17) | 26 => (u2 18) | 27 => q3 | 28 => (u4 1) | 29 => (u4 2) | 30 => (u4 3) | 31 => (u4 4) | 32 => (u4 5) | 33 => (u4 6) | 34 => (u4 7) | 35 => (u4 8) | 36 => (u4 9) | 37 => (u4 10) | 38 => (u4 11) | 39 => (u4 12) | 40 => (u4 13) | 41 => aK 0 | 42 => aV 0 | _ => b := ⟨_, rfl⟩
  have hw : ∀ k, k < 41 → ∃ e, ([(q1, .inr (5, [.ref (u2 1), .ref (u2 6), .int 0, .ref (u2 11), .ref (u2 13), .ref (u2 14), .ref (u2 16), .ref (u2 18)])), ((u2 1), .inr (3, [.ref (u2 2), .ref (u2 4), .int 1])), ((u2 2), .inr (0, [.ref (u2 3), .int 0])), ((u2 3), .inl (dA 0, 72, .inl (fun _ => 0))), ((u2 4), .inr (1, [.int 3, .int 0, .int 2, .ref (u2 5)])), ((u2 5), .inl (dA 0, 4, .inl (upd (upd (upd (upd (fun _ => 0) 0 1) 1 1) 2 1) 3 1))), ((u2 6), .inr (3, [.ref (u2 7), .ref (u2 9), .int 1])), ((u2 7), .inr (0, [.ref (u2 8), .int 0])), ((u2 8), .inl (dA 0, 72, .inl (fun _ => 0))), ((u2 9), .inr (1, [.int 3, .int 0, .int 2, .ref (u2 10)])), ((u2 10), .inl (dA 0, 4, .inl (upd (upd (upd (upd (fun _ => 0) 0 1) 1 1) 2 1) 3 1))), ((u2 11), .inr (4, [.ref (u2 12), .int 0])), ((u2 12), .inl (dA 0, 100, .inl (fun _ => 0))), ((u2 13), .inl (dA 2, 4, .inr (.inr (.inr (.inr (va_up (va_up (va_up (va_up (fun _ => none) 0 (some (u2 19))) 1 (some (u2 21))) 2 (some (u2 23))) 3 (some (u2 25)))))))), ((u2 14), .inr (0, [.ref (u2 15), .int 0])), ((u2 15), .inl (dA 0, 72, .inl (fun _ => 0))), ((u2 16), .inr (0, [.ref (u2 17), .int 0])), ((u2 17), .inl (dA 0, 72, .inl (fun _ => 0))), ((u2 18), .inl (dA 0, 4, .inl (fun _ => 0))), ((u2 19), .inr (2, [.ref (u2 20), .int 0, .int (-1)])), ((u2 20), .inl (dA 0, 48, .inl (fun _ => 0))), ((u2 21), .inr (2, [.ref (u2 22), .int 0, .int (-1)])), ((u2 22), .inl (dA 0, 48, .inl (fun _ => 0))), ((u2 23), .inr (2, [.ref (u2 24), .int 0, .int (-1)])), ((u2 24), .inl (dA 0, 48, .inl (fun _ => 0))), ((u2 25), .inr (2, [.ref (u2 26), .int 0, .int (-1)])), ((u2 26), .inl (dA 0, 48, .inl (fun _ => 0))), (q3, .inr (6, [.ref (u4 1), .ref (u4 2), .int 0, .ref (u4 3), .int 0, .ref (u4 4), .ref (u4 5), .ref (u4 6), .ref (u4 7), .ref (u4 8), .ref (u4 9), .ref (u4 10), .ref (u4 11), .ref (u4 12), .ref (u4 13)])), ((u4 1), .inl (dA 0, 57, .inl (upd (upd (upd (upd (upd (upd (upd (fun _ => 0) 0 3) 2 2) 3 1) 5 1) 6 1) 7 1) 8 1))), ((u4 2), .inl (dA 0, 57, .inl (fun _ => 0))), ((u4 3), .inl (dA 0, 100, .inl (fun _ => 0))), ((u4 4), .inl (dA 0, 4, .inl (upd (upd (upd (upd (fun _ => 0) 0 (-1)) 1 (-1)) 2 (-1)) 3 (-1)))), ((u4 5), .inl (dA 0, 4, .inl (fun _ => 0))), ((u4 6), .inl (dA 0, 192, .inl (fun _ => 0))), ((u4 7), .inl (dA 0, 80, .inl (fun _ => 0))), ((u4 8), .inl (dA 0, 4, .inl (fun _ => 0))), ((u4 9), .inl (dA 0, 24, .inl (fun _ => 0))), ((u4 10), .inl (dA 0, 8, .inl (fun _ => 0))), ((u4 11), .inl (dA 1, 9, .inl (fun _ => 0))), ((u4 12), .inl (dA 1, 9, .inl (fun _ => 0))), ((u4 13), .inl (dA 1, 9, .inl (fun _ => 0)))] : va_W)[zpi k]? = some (ad k, e) := by
    subst hade
    intro k hk
    match k, hk with
    | 0, _ => exact ⟨_, rfl⟩
    | 1, _ => exact ⟨_, rfl⟩
    | 2, _ => exact ⟨_, rfl⟩
    | 3, _ => exact ⟨_, rfl⟩
    | 4, _ => exact ⟨_, rfl⟩
    | 5, _ => exact ⟨_, rfl⟩
    | 6, _ => exact ⟨_, rfl⟩
    | 7, _ => exact ⟨_, rfl⟩
    | 8, _ => exact ⟨_, rfl⟩
    | 9, _ => exact ⟨_, rfl⟩
    | 10, _ => exact ⟨_, rfl⟩
    | 11, _ => exact ⟨_, rfl⟩
    | 12, _ => exact ⟨_, rfl⟩
    | 13, _ => exact ⟨_, rfl⟩
    | 14, _ => exact ⟨_, rfl⟩
    | 15, _ => exact ⟨_, rfl⟩
    | 16, _ => exact ⟨_, rfl⟩
    | 17, _ => exact ⟨_, rfl⟩
    | 18, _ => exact ⟨_, rfl⟩
    | 19, _ => exact ⟨_, rfl⟩
    | 20, _ => exact ⟨_, rfl⟩
    | 21, _ => exact ⟨_, rfl⟩
    | 22, _ => exact ⟨_, rfl⟩
    | 23, _ => exact ⟨_, rfl⟩
    | 24, _ => exact ⟨_, rfl⟩
    | 25, _ => exact ⟨_, rfl⟩
    | 26, _ => exact ⟨_, rfl⟩
    | 27, _ => exact ⟨_, rfl⟩
    | 28, _ => exact ⟨_, rfl⟩
    | 29, _ => exact ⟨_, rfl⟩
    | 30, _ => exact ⟨_, rfl⟩
    | 31, _ => exact ⟨_, rfl⟩
    | 32, _ => exact ⟨_, rfl⟩
    | 33, _ => exact ⟨_, rfl⟩
    | 34, _ => exact ⟨_, rfl⟩
    | 35, _ => exact ⟨_, rfl⟩
    | 36, _ => exact ⟨_, rfl⟩
    | 37, _ => exact ⟨_, rfl⟩
    | 38, _ => exact ⟨_, rfl⟩
    | 39, _ => exact ⟨_, rfl⟩
    | 40, _ => exact ⟨_, rfl⟩
    | k + 41, hk => omega
  have hge : ∀ k, k < 41 → s.heap.size ≤ ad k := fun k hk => by
    obtain ⟨e, he⟩ := hw k hk
    exact hD.2 (zpi k) _ he
  have hinj : ∀ i j : Nat, i < 41 → j < 41 → ad i = ad j → i = j := fun i j hi hj h => by
    obtain ⟨e1, h1⟩ := hw i hi
    obtain ⟨e2, h2⟩ := hw j hj
    exact zpi_inj i hi j hj (hD.1 (zpi i) (zpi j) _ _ h1 h2 h)
  have hzA : ∀ q, zA ad q → s.heap.size ≤ q := fun q ⟨k, hk, h⟩ => by rw [h]; exact hge k hk
  have hz : ∀ k, k < 41 → va_at D vwCl (ad k, zcell dA ad zm0 k) H := by
    subst hade
    intro k hk
    match k, hk with
    | 0, _ => exact hP 0 _ rfl
    | 1, _ => exact hP 1 _ rfl
    | 2, _ => exact hP 2 _ rfl
    | 3, _ => exact hP 3 _ rfl
    | 4, _ => exact hP 4 _ rfl
    | 5, _ =>
      show va_at D vwCl ((u2 5), .inl (dA 0, 4, .inl (fun j => Int32.ofInt (zf_4 j).toInt))) H
      rw [zfo_back]
      exact hP 5 _ rfl
    | 6, _ => exact hP 6 _ rfl
    | 7, _ => exact hP 7 _ rfl
    | 8, _ => exact hP 8 _ rfl
    | 9, _ => exact hP 9 _ rfl
    | 10, _ =>
      show va_at D vwCl ((u2 10), .inl (dA 0, 4, .inl (fun j => Int32.ofInt (zf_5 j).toInt))) H
      rw [zfo_back]
      exact hP 10 _ rfl
    | 11, _ => exact hP 11 _ rfl
    | 12, _ => exact hP 12 _ rfl
    | 13, _ =>
      have h13 : H[(u2 13)]? = some (vp_cell (dA 2) (4, .inr (.inr (.inr (.inr (va_up (va_up (va_up (va_up (fun _ => none) 0 (some (u2 19))) 1 (some (u2 21))) 2 (some (u2 23))) 3 (some (u2 25)))))))) := hP 13 ((u2 13), .inl (dA 2, 4, .inr (.inr (.inr (.inr (va_up (va_up (va_up (va_up (fun _ => none) 0 (some (u2 19))) 1 (some (u2 21))) 2 (some (u2 23))) 3 (some (u2 25)))))))) rfl
      refine h13.trans ?_
      show some (vp_cell (dA 2) _) = some (vp_cell (dA 2) (4, .inr (.inr (.inr (.inr (fun j => some (_)))))))
      rw [vp_cell_q, vp_cell_q]
      refine congrArg some (zarrV_congr fun j hj => ?_)
      rcases (show j = 0 ∨ j = 1 ∨ j = 2 ∨ j = 3 by omega) with rfl | rfl | rfl | rfl <;> rfl
    | 14, _ => exact hP 19 _ rfl
    | 15, _ => exact hP 20 _ rfl
    | 16, _ => exact hP 21 _ rfl
    | 17, _ => exact hP 22 _ rfl
    | 18, _ => exact hP 23 _ rfl
    | 19, _ => exact hP 24 _ rfl
    | 20, _ => exact hP 25 _ rfl
    | 21, _ => exact hP 26 _ rfl
    | 22, _ => exact hP 14 _ rfl
    | 23, _ => exact hP 15 _ rfl
    | 24, _ => exact hP 16 _ rfl
    | 25, _ => exact hP 17 _ rfl
    | 26, _ => exact hP 18 _ rfl
    | 27, _ => exact hP 27 _ rfl
    | 28, _ =>
      show va_at D vwCl ((u4 1), .inl (dA 0, 57, .inl (fun j => Int32.ofInt (zf_12 j).toInt))) H
      rw [zfo_back]
      exact hP 28 _ rfl
    | 29, _ => exact hP 29 _ rfl
    | 30, _ => exact hP 30 _ rfl
    | 31, _ =>
      show va_at D vwCl ((u4 4), .inl (dA 0, 4, .inl (fun j => Int32.ofInt (zf_15 j).toInt))) H
      rw [zfo_back]
      exact hP 31 _ rfl
    | 32, _ => exact hP 32 _ rfl
    | 33, _ => exact hP 33 _ rfl
    | 34, _ => exact hP 34 _ rfl
    | 35, _ => exact hP 35 _ rfl
    | 36, _ => exact hP 36 _ rfl
    | 37, _ => exact hP 37 _ rfl
    | 38, _ => exact hP 38 _ rfl
    | 39, _ => exact hP 39 _ rfl
    | 40, _ => exact hP 40 _ rfl
    | k + 41, hk => omega
  have hPz : va_P D vwCl (zwl dA ad zm0) H := fun k q hk => by
    have hl41 : k < 41 := by have := (List.getElem?_eq_some_iff.mp hk).1; rw [zwl_len] at this; exact this
    rw [zwl_at hl41] at hk
    cases hk
    exact hz k hl41
  have hE : zEnv D dA ad s s.heap := by
    refine ⟨hK, hNW, ?_, hZ.narrow hzA, ?_, hinj⟩
    · have h1 := hSt.narrow hzA
      subst hade
      exact ⟨fun i hi => by rcases (show i = 0 by omega) with rfl; exact h1.1 0 hi, fun i j hi hj _ => by omega⟩
    · subst hade
      exact hRf
  have hb43 : ad 43 = b := by subst hade; rfl
  have hgo := zG_W (l := l) (e := e) (R := room_1) (m := m) (args := #[Value.ref b]) (below := below) (meth := meth) (cells := 41) (slots := 1212) (Q := lw_Z below #[Value.ref b] s) (xt := xs) (show 138 < 139 by decide) hx hb hml hown hts hE (z_sound l D dA ad 41) ⟨Nat.le_of_ble_eq_true rfl, Nat.le_of_ble_eq_true rfl, Nat.le_of_ble_eq_true rfl, Nat.le_of_ble_eq_true rfl⟩ (K := zLK) (fun r pc ls H locs σ hre hKr hM hv hP hS => ?_) (fun _ => ⟨⟨by rw [hb43]; exact hX, by rw [hb43]; exact hbl, fun h => absurd (hzA _ h) (by rw [hb43]; exact Nat.not_le.mpr hbl)⟩, by omega, fun j => rfl⟩) (law_loop (sL := L) (xs := fun j => (xs j).toInt) (fun j => zof32 _) hL (L + 7) zm0_inv (Int.le_refl 0) (by omega) (by omega))
  · refine va_forget (fun q h => hS.2.2 q h) ?_
    have hl5 : lv_has ls 4 (zlc ad 0 [vR 43, vR 0, vR 27, vI 0]) := by subst hade; exact lv_sub hl [3, 2, 1, 0] rfl
    exact hgo H [] ls (fun v hv => by rcases List.mem_cons.mp hv with rfl | hv; exact trivial; rcases List.mem_cons.mp hv with rfl | hv; exact trivial; rcases List.mem_cons.mp hv with rfl | hv; exact trivial; rw [List.mem_singleton.mp hv]; exact ⟨by decide, by decide⟩) (fun v hv => by cases hv) zm0_ok hl5 hPz ⟨hS.1, fun q h1 _ => hS.2.1 q h1 (Nat.not_le.mpr h1), fun _ h => by cases h⟩
  · have hKr1 : r = some (vI 1) := hKr
    subst hKr1
    have hd : decode code pc = .ok (.ireturn, 1) := by
      rcases hre with ⟨h1, -⟩ | ⟨y, h1, h2, -⟩ | ⟨y, h1, -⟩ | ⟨h1 | ⟨k, h1⟩, -⟩
      · cases h1
      · exact h2
      · cases h1
      · cases h1
      · cases h1
    refine va_forget (fun q h => hzA _ (hS.2.2 q h)) ?_
    refine W.widen (k := 600000) (n := 7302250) (Nat.le_of_ble_eq_true rfl) (Nat.le_of_ble_eq_true rfl) ?_
    exact lw_ret hx hb hr hlocks hd
