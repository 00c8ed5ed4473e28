/-! the small machine is the machine: calls -/
def zrm (d : Nat) : Room := { frames := d, cells := 0, slots := 0, locals := 40 * d }
theorem zlay_len {ad : Nat → Nat} : ∀ as : List zV, (lg_sl (as.map (zcv ad))).length = (zlay as).length
  | [] => rfl
  | v :: l => by
    have ih := zlay_len (ad := ad) l
    unfold lg_sl at ih ⊢
    rw [List.map_cons, List.flatMap_cons, List.length_append, ih]
    rcases v with x | x | k | b <;> simp [zcv, Value.category, zlay] <;> omega
theorem zlay_args {ad : Nat → Nat} : ∀ (as : List zV) (i : Nat), ∀ q ∈ zlc ad i (zlay as), q ∈ lv_args i (as.map (zcv ad))
  | [], i, q, h => by simp [zlay, zlc] at h
  | .inl x :: l, i, q, h => by
    rcases List.mem_cons.mp (show q ∈ (i, zcv ad (.inl x)) :: zlc ad (i + 1) (zlay l) from h) with rfl | h
    · exact List.mem_cons_self
    · exact List.mem_cons_of_mem _ (zlay_args l (i + 1) q h)
  | .inr (.inl x) :: l, i, q, h => by
    rcases List.mem_cons.mp (show q ∈ (i, zcv ad (.inr (.inl x))) :: zlc ad (i + 1 + 1) (zlay l) from h) with rfl | h
    · exact List.mem_cons_self
    · exact List.mem_cons_of_mem _ (zlay_args l (i + 2) q h)
  | .inr (.inr (.inl k)) :: l, i, q, h => by
    rcases List.mem_cons.mp (show q ∈ (i, zcv ad (.inr (.inr (.inl k)))) :: zlc ad (i + 1) (zlay l) from h) with rfl | h
    · exact List.mem_cons_self
    · exact List.mem_cons_of_mem _ (zlay_args l (i + 1) q h)
  | .inr (.inr (.inr true)) :: l, i, q, h => by
    rcases List.mem_cons.mp (show q ∈ (i, zcv ad vN) :: zlc ad (i + 1) (zlay l) from h) with rfl | h
    · exact List.mem_cons_self
    · exact List.mem_cons_of_mem _ (zlay_args l (i + 1) q h)
  | .inr (.inr (.inr false)) :: l, i, q, h => List.mem_cons_of_mem _ (zlay_args l (i + 1) q (show q ∈ zlc ad (i + 1) (zlay l) from h))
theorem zentry {ad : Nat → Nat} {as : List zV} {n : Nat} (h : (zlay as).length ≤ n) : lv_has ((lg_sl (as.map (zcv ad)) ++ List.replicate (n - (lg_sl (as.map (zcv ad))).length) Slot.unset).toArray) n (zlc ad 0 (zpad n (zlay as))) := by
  have h0 := lv_entry (as.map (zcv ad)) (n := n) (by rw [zlay_len]; exact h)
  refine ⟨h0.1, h0.2.1, fun q hq => h0.2.2 q ?_⟩
  obtain ⟨j, v, h1, h2, rfl⟩ := (zlc_mem _ 0 q).mp hq
  unfold zpad at h1
  rw [List.getElem?_append] at h1
  split at h1
  · exact zlay_args as 0 _ ((zlc_mem _ 0 _).mpr ⟨j, v, h1, h2, rfl⟩)
  · rw [List.getElem?_replicate] at h1
    split at h1
    · exact absurd (Option.some.inj h1).symm h2
    · cases h1
theorem zlay_ok : ∀ as : List zV, (∀ v ∈ as, zokV v) → ∀ w ∈ zlay as, zokV w
  | [], _, w, hw => by cases hw
  | .inl x :: l, h, w, hw => by
    rcases List.mem_cons.mp (show w ∈ .inl x :: zlay l from hw) with rfl | hw
    · exact h _ List.mem_cons_self
    · exact zlay_ok l (fun v hv => h v (List.mem_cons_of_mem _ hv)) w hw
  | .inr (.inl x) :: l, h, w, hw => by
    rcases List.mem_cons.mp (show w ∈ vL x :: vU :: zlay l from hw) with rfl | hw
    · exact h _ List.mem_cons_self
    · rcases List.mem_cons.mp hw with rfl | hw
      · trivial
      · exact zlay_ok l (fun v hv => h v (List.mem_cons_of_mem _ hv)) w hw
  | .inr (.inr (.inl k)) :: l, h, w, hw => by
    rcases List.mem_cons.mp (show w ∈ .inr (.inr (.inl k)) :: zlay l from hw) with rfl | hw
    · trivial
    · exact zlay_ok l (fun v hv => h v (List.mem_cons_of_mem _ hv)) w hw
  | .inr (.inr (.inr b)) :: l, h, w, hw => by
    rcases List.mem_cons.mp (show w ∈ .inr (.inr (.inr b)) :: zlay l from by cases b <;> exact hw) with rfl | hw
    · trivial
    · exact zlay_ok l (fun v hv => h v (List.mem_cons_of_mem _ hv)) w hw
theorem zpad_ok {n : Nat} {L : List zV} (h : ∀ w ∈ L, zokV w) : ∀ w ∈ zpad n L, zokV w := by
  intro w hw
  unfold zpad at hw
  rcases List.mem_append.mp hw with q | q
  · exact h w q
  · rw [(List.mem_replicate.mp q).2]; trivial
section ZM
variable {p : Program} {l : Launch} {e : Env} {R : Room} {s : State} {m : MethodId} {args : Array Value} {below : List Frame} {meth : Method} {c : Code} {cells slots : Nat} {Q : State → Prop} {D : va_G} {dA ad : Nat → Nat}
/-- what is proved of the small machine holds of the machine -/
theorem zG_W {d mi : Nat} (hmi : mi < 139) (hx : p.tables.exec = Jvm.exec) (hb : c.code = zb mi) (hml : c.maxLocals = zl mi) (hown : s.vm.findClass (zR (zown mi)) = some m.cls) (hts : ∀ w ∈ zGT, w.before args s = true) (hE : zEnv D dA ad s s.heap)
    {K : zM → Option zV → Prop} {sL : Nat} {xs : Nat → Int} {xt : Nat → Int32}
    (hC : ∀ (mi : Nat) (as : List zV) (σ : zM) (K : zM → Option zV → Prop), mi < 138 → zC d mi as σ K → zokM σ → (∀ v ∈ as, zokV v) → Met l (zy mi) (zws mi) (zrm d) (zPc D dA ad as σ) (zQc D dA ad K) 0 0 (zA ad)) (hrm : d + 1 ≤ R.frames ∧ 40 + 40 * d ≤ R.locals ∧ cells ≤ R.cells ∧ slots ≤ R.slots)
    (hRet : ∀ (r : Option zV) (pc : Nat) (ls : Array Slot) (H : Heap) (locs : List Loc) (σ : zM), zretOk mi pc r → K σ r → zokM σ → (∀ v, r = some v → zokV v) → va_P D vwCl (zwl dA ad σ) H → va_S (zA ad) s.heap H locs → W p l e R s m args below meth c H locs cells slots Q (F0 m pc ls ((r.map (zcv ad)).toList)))
    (hScr : mi = 138 → (va_X (ad 43) sL xt s s.heap ∧ ad 43 < s.heap.size ∧ ¬ zA ad (ad 43)) ∧ sL < 100000 ∧ ∀ j, xs j = (xt j).toInt)
    {S : zS} (h : zG d mi K sL xs S) : zWX p l e R s m args below meth c cells slots Q D dA ad (zl mi) S :=
  h _ (fun _ q => z_step hmi hx hb hml hown hts hE hC ⟨rfl, rfl, hrm.1, hrm.2.1, hrm.2.2.1, hrm.2.2.2⟩ hRet hScr q) (fun _ k q => zWX_cut k q)
end ZM
set_option maxHeartbeats 4000000 in
theorem z_sound (l : Launch) (D : va_G) (dA ad : Nat → Nat) : ∀ (d mi : Nat) (as : List zV) (σ : zM) (K : zM → Option zV → Prop), mi < 138 → zC d mi as σ K → zokM σ → (∀ v ∈ as, zokV v) → Met l (zy mi) (zws mi) (zrm d) (zPc D dA ad as σ) (zQc D dA ad K) 0 0 (zA ad)
  | 0, _, _, _, _, _, h, _, _ => h.elim
  | d + 1, mi, as, σ, K, hmi, h, hM, hok => by
    obtain ⟨w1, w2, w3, w4, w5, w6, w7, w8⟩ := zmok_to_138 mi hmi
    refine Met.ofW (cc := zb mi) (maxL := zl mi) (ret := zret mi) w3 rfl ?_
    intro p e s m args below meth c s₁ B hml hv
    obtain ⟨rfl, hP, hE⟩ := hv
    have hx := B.exec
    have hb := B.bytes
    have hr := B.returns
    have hts0 := atoms_spec (ws := zws mi) B.pre
    have hts : ∀ w ∈ zGT, w.before (as.map (zcv ad)).toArray s = true := fun w hw => hts0 w (List.mem_cons_of_mem _ hw)
    have hown : s.vm.findClass (zR (zown mi)) = some m.cls := by rw [← w4]; exact findClass_of_methodNamed B.named
    have hlocks := B.notSynchronized
    unfold zC at h
    cases hbl : Nat.ble (zlay as).length (zl mi) with
    | false => rw [hbl] at h; exact h.elim
    | true =>
    rw [hbl] at h
    have hlen : (zlay as).length ≤ zl mi := Nat.le_of_ble_eq_true hbl
    have hg : zG d mi K 0 zfx (0, zpad (zl mi) (zlay as), [], σ) := h
    have hw := zG_W (cells := 0) (slots := 0) (R := (headSpec (zws mi) (zrm (d + 1))).room) (Q := MQ below (zQc D dA ad K) (as.map (zcv ad)).toArray s 0 0 (zA ad)) (xt := fun _ => 0) (Nat.lt_succ_of_lt hmi) hx hb hml hown hts hE (z_sound l D dA ad d) ⟨Nat.le_refl _, by show 40 + 40 * d ≤ 40 * (d + 1); omega, Nat.zero_le _, Nat.zero_le _⟩ (below := below) (meth := meth) (e := e) (fun r pc ls H locs σ hre hK hM2 hv2 hP2 hS2 => ?_) (fun h => absurd h (by omega)) hg
    · rw [lg_entry_eq]
      exact hw s.heap [] _ (zpad_ok (zlay_ok as hok)) (fun v hv => by cases hv) hM (zentry hlen) hP va_S.rf
    · rcases hre with ⟨rfl, hd, ht⟩ | ⟨x, rfl, hd, ht⟩ | ⟨x, rfl, hd, ht⟩ | ⟨hrr, hd, ht⟩
      · exact W.vret hx hb (hr.trans ht) (fun t ht2 _ => ⟨⟨σ, none, rfl, hK, hM2, hv2, by rw [ht2]; exact hP2⟩, hS2.F ht2⟩) hS2.2.2 hd
      · rcases ht with ht | ⟨ht, h01⟩ | ⟨ht, rfl⟩
        · exact W.iret (v := Int32.ofInt x) hx hb (hr.trans ht) (fun t ht2 _ => ⟨⟨σ, some (vI x), rfl, hK, hM2, hv2, by rw [ht2]; exact hP2⟩, hS2.F ht2⟩) hS2.2.2 hd
        · exact W.zret (v := Int32.ofInt x) (ty := .boolean) hx hb (hr.trans ht) (by rcases h01 with rfl | rfl <;> rfl) (fun t ht2 _ => ⟨⟨σ, some (vI x), rfl, hK, hM2, hv2, by rw [ht2]; exact hP2⟩, hS2.F ht2⟩) hS2.2.2 hd
        · exact W.zret (v := Int32.ofInt 0) (ty := .byte) hx hb (hr.trans ht) rfl (fun t ht2 _ => ⟨⟨σ, some (vI 0), rfl, hK, hM2, hv2, by rw [ht2]; exact hP2⟩, hS2.F ht2⟩) hS2.2.2 hd
      · exact W.lret (v := Int64.ofInt x) hx hb (hr.trans ht) (fun t ht2 _ => ⟨⟨σ, some (vL x), rfl, hK, hM2, hv2, by rw [ht2]; exact hP2⟩, hS2.F ht2⟩) hS2.2.2 hd
      · rcases hrr with rfl | ⟨k, rfl⟩
        · exact W.aret (v := .null) (rt := .object "PaleFence$Sheet") hx hb (hr.trans ht) (Or.inl ⟨_, rfl⟩) (Or.inl rfl) (fun t ht2 _ => ⟨⟨σ, some vN, rfl, hK, hM2, hv2, by rw [ht2]; exact hP2⟩, hS2.F ht2⟩) hS2.2.2 hd
        · exact W.aret (v := .ref (ad k)) (rt := .object "PaleFence$Sheet") hx hb (hr.trans ht) (Or.inl ⟨_, rfl⟩) (Or.inr ⟨_, rfl⟩) (fun t ht2 _ => ⟨⟨σ, some (vR k), rfl, hK, hM2, hv2, by rw [ht2]; exact hP2⟩, hS2.F ht2⟩) hS2.2.2 hd
