theorem zAC_3 : Cond.arrayClass .byte ∈ lw_tbl := tb_2 (List.mem_of_getElem? (i := 81) rfl)
section ZM
variable {p : Program} {l : Launch} {e : Env} {R : Room} {s : State} {m : MethodId} {args : Array Value} {below : List Frame} {meth : Method} {c : Code} {Q : State → Prop} {X : zXe} {D : va_G} {L : Nat} {xs : Nat → Int32} {PS : State → Prop} {mid N NS mc ms : Nat} {pc : Nat} {ls st : List Value} {σ τ : MS}
theorem s_newarray (C : zCx X D L xs PS mid N NS mc ms p R s m args meth c) {v : ArrayType} {a : Nat} {x : Int32} (hd : decode (zby mid) pc = .ok (.newarray v, 2)) (ha : (v = .int ∧ a = 1) ∨ (v = .long ∧ a = 2) ∨ (v = .byte ∧ a = 3)) (h0 : ¬ x < 0) (hx : x.toNatClampNeg ≤ 100000) (hN : (zNew σ (a, x.toNatClampNeg)).1.length ≤ N) (hNS : zsl (zNew σ (a, x.toNatClampNeg)) ≤ NS)
    (k : zW p l e R s m args below meth c Q X D L xs mid N NS mc ms (pc + 2) ls (.ref σ.1.length :: st) (zNew σ (a, x.toNatClampNeg))) : zW p l e R s m args below meth c Q X D L xs mid N NS mc ms pc ls (.int x :: st) σ := by
  intro H locs cells slots lr h1 h2 h3 h4 h5 h6 h7 h8
  obtain ⟨cA, g1, g2, g3, g4, g5, g6⟩ := id h1
  have hts := C.2.2.2.2.2.1
  have hln := zNew_len σ (a, x.toNatClampNeg)
  have hsn := zNew_sl σ (a, x.toNatClampNeg)
  have hcap := C.2.2.2.2.2.2.2.2.2.1
  have hmc := C.2.2.2.2.2.2.2.2.2.2.1
  have hms := C.2.2.2.2.2.2.2.2.2.2.2.1
  have ht : newarray.typeOf v = zaty a := by rcases ha with ⟨rfl, rfl⟩ | ⟨rfl, rfl⟩ | ⟨rfl, rfl⟩ <;> rfl
  have hw : Cond.arrayClass (newarray.typeOf v) ∈ zTB := by
    rcases ha with ⟨rfl, rfl⟩ | ⟨rfl, rfl⟩ | ⟨rfl, rfl⟩
    · exact zTB_of zAC_1 rfl
    · exact zTB_of zAC_2 rfl
    · exact zTB_of zAC_3 rfl
  have hra : zarr a := by rcases ha with ⟨rfl, rfl⟩ | ⟨rfl, rfl⟩ | ⟨rfl, rfl⟩ <;> exact Or.inl ⟨by omega, by omega⟩
  have ha0 : zsz (a, x.toNatClampNeg) = x.toNatClampNeg := by rcases ha with ⟨rfl, rfl⟩ | ⟨rfl, rfl⟩ | ⟨rfl, rfl⟩ <;> rfl
  have hby : componentBytes (newarray.typeOf v) ≤ 8 := by rcases ha with ⟨rfl, rfl⟩ | ⟨rfl, rfl⟩ | ⟨rfl, rfl⟩ <;> decide
  refine va_newaK (N := x.toNatClampNeg) C.1 C.2.1 (hts _ hw) rfl hd rfl h0 rfl ?_ (by omega) (by omega) rfl fun H1 cN e1 e2 e3 e4 e5 => ?_
  · calc x.toNatClampNeg * componentBytes (newarray.typeOf v) ≤ 100000 * 8 := Nat.mul_le_mul hx hby
      _ ≤ 536870912 := by decide
  have hNN : ArrOfT s cN (zaty a) ∧ va_RA s cN (zaty a) := by
    rw [ht] at e4 e5
    refine ⟨e4, ?_⟩
    rcases ha with ⟨rfl, rfl⟩ | ⟨rfl, rfl⟩ | ⟨rfl, rfl⟩ <;> exact e5
  obtain ⟨n1, n2⟩ := zAK_new (X := X) (n := x.toNatClampNeg) hra g1 hNN (fun c1 c2 => zRA_one c1 c2)
  have k1 := k H1 locs (cells + 1) (slots + x.toNatClampNeg) lr (zSm_new g2 g3 g4 g5 g6 (show a ≠ 6 by omega) (fun r r1 r2 => ?_) n1 ?_ e2 e3) ⟨Nat.le_trans h2.1 (by omega), fun q q1 q2 => (e3 q (Nat.lt_of_lt_of_le q1 h2.1)).trans (h2.2.1 q q1 q2), h2.2.2⟩ h3 (by omega) (by omega) hN hNS h8
  · rw [List.map_cons, show zV X (.ref σ.1.length) = .ref H.size by rw [g3]; exact zE_in g4 (by omega)] at k1
    exact k1
  · rcases n2 r r1 r2 with z | z
    · exact z
    · exact zcell_cong fun _ => if_neg z.2
  · rw [← g3]
    have fI : sI (zNew σ (a, x.toNatClampNeg)) σ.1.length = fun _ => 0 := funext fun i => if_pos rfl
    have fL : sL (zNew σ (a, x.toNatClampNeg)) σ.1.length = fun _ => 0 := funext fun i => if_pos rfl
    have hKl := zNew_Kl σ (a, x.toNatClampNeg)
    rcases ha with ⟨rfl, rfl⟩ | ⟨rfl, rfl⟩ | ⟨rfl, rfl⟩
    · rw [zcell_i (t := 1) (by rw [hKl]) (Or.inl rfl), hKl, fI]
      exact e1
    · rw [zcell_l (by rw [hKl]), hKl, fL]
      exact e1
    · rw [zcell_i (t := 3) (by rw [hKl]) (Or.inr rfl), hKl, fI]
      exact e1
theorem s_anew (C : zCx X D L xs PS mid N NS mc ms p R s m args meth c) {v a : Nat} {x : Int32} (hd : decode (zby mid) pc = .ok (.anewarray v, 3)) (ha : a = 41 ∨ a = 45 ∨ a = 48) (hl : (zow mid, v, a - 40) ∈ zWl) (h0 : ¬ x < 0) (hx : x.toNatClampNeg ≤ 100000) (hN : (zNew σ (a, x.toNatClampNeg)).1.length ≤ N) (hNS : zsl (zNew σ (a, x.toNatClampNeg)) ≤ NS)
    (k : zW p l e R s m args below meth c Q X D L xs mid N NS mc ms (pc + 3) ls (.ref σ.1.length :: st) (zNew σ (a, x.toNatClampNeg))) : zW p l e R s m args below meth c Q X D L xs mid N NS mc ms pc ls (.int x :: st) σ := by
  intro H locs cells slots lr h1 h2 h3 h4 h5 h6 h7 h8
  obtain ⟨cA, g1, g2, g3, g4, g5, g6⟩ := id h1
  have hts := C.2.2.2.2.2.1
  have hln := zNew_len σ (a, x.toNatClampNeg)
  have hsn := zNew_sl σ (a, x.toNatClampNeg)
  have hcap := C.2.2.2.2.2.2.2.2.2.1
  have hmc := C.2.2.2.2.2.2.2.2.2.2.1
  have hms := C.2.2.2.2.2.2.2.2.2.2.2.1
  have hao : va_AO (zcn (a - 40)) s := C.2.2.2.2.2.2.2.2.1.2.2.2.2.2.1 _ (by rcases ha with rfl | rfl | rfl <;> decide)
  have hra : zarr a := by rcases ha with rfl | rfl | rfl <;> exact Or.inr ⟨by omega, by omega⟩
  have ha4 : 40 ≤ a := by omega
  have ha0 : zsz (a, x.toNatClampNeg) = x.toNatClampNeg := by rcases ha with rfl | rfl | rfl <;> rfl
  refine W.anew C.1 C.2.1 C.2.2.2.2.1 (hts _ (zTB_of (zWl_in _ hl) rfl)) (va_AO.use hao) rfl hd rfl h0 (by omega) (by omega) (by omega) fun cN kA comp f1 f2 f3 f4 => ?_
  generalize hH1 : H.push ({ cls := cN, slots := Array.replicate x.toNatClampNeg .null, vm := .none } : Cell) = H1
  have z1 : H1.size = H.size + 1 := by rw [← hH1, Array.size_push]
  have e1 : H1[H.size]? = some (arrV cN x.toNatClampNeg (fun _ => .null)) := by rw [← hH1, Array.getElem?_push_size, ← arrV_new]
  have o1 : ∀ q : Nat, q < H.size → H1[q]? = H[q]? := fun q hq => by rw [← hH1, Array.getElem?_push, if_neg (Nat.ne_of_lt hq)]
  have hNN : ArrOfT s cN (zaty a) ∧ va_RA s cN (zaty a) := by
    rw [zaty_q ha4]
    exact ⟨fun N z => ⟨(fun k h => by cases h), kA, f2, comp, f3⟩, kA, comp, f2, f3, f4, f1⟩
  obtain ⟨n1, n2⟩ := zAK_new (X := X) (n := x.toNatClampNeg) hra g1 hNN (fun c1 c2 => zRA_one c1 c2)
  have k1 := k H1 locs (cells + 1) (slots + x.toNatClampNeg) lr (zSm_new g2 g3 g4 g5 g6 (show a ≠ 6 by omega) (fun r r1 r2 => ?_) n1 ?_ z1 o1) ⟨Nat.le_trans h2.1 (by omega), fun q q1 q2 => (o1 q (Nat.lt_of_lt_of_le q1 h2.1)).trans (h2.2.1 q q1 q2), h2.2.2⟩ h3 (by omega) (by omega) hN hNS h8
  · rw [List.map_cons, show zV X (.ref σ.1.length) = .ref H.size by rw [g3]; exact zE_in g4 (by omega)] at k1
    exact k1
  · rcases n2 r r1 r2 with z | z
    · exact z
    · exact zcell_cong fun _ => if_neg z.2
  · rw [← g3]
    have hKl := zNew_Kl σ (a, x.toNatClampNeg)
    have fR : (fun j => zEo X (sR (zNew σ (a, x.toNatClampNeg)) σ.1.length j)) = fun _ => none := funext fun i => by
      rw [show sR (zNew σ (a, x.toNatClampNeg)) σ.1.length i = zNul from if_pos rfl]
      rfl
    rw [zcell_q (t := a) (by rw [hKl]) ha4, hKl, fR]
    show H1[H.size]? = some (vp_cell _ _)
    rw [if_pos rfl, vp_cell_q]
    exact e1
/-- System.arraycopy between two rows of numbers -/
theorem z_copy {α : Type} (mk : α → Value) (hcat : ∀ z, mk z ≠ .null) {H : Heap} {locs : List Loc} {cells slots : Nat} {lr : Array Slot} {rest : List Value} (C : zCx X D L xs PS mid N NS mc ms p R s m args meth c) (hlr : lr.size = zmx mid) {v : Nat} (hl : (zow mid, v) ∈ zWa) {a0 a1 : Nat} {c0 c1 : ClassId} {n0 n1 : Nat} {f g : Nat → α} {ty : FieldType} (hc0 : H[a0]? = some (arrV c0 n0 (fun j => mk (f j)))) (hc1 : H[a1]? = some (arrV c1 n1 (fun j => mk (g j)))) (A0 : ArrOfT s c0 ty) (A1 : ArrOfT s c1 ty) (hprim : refKind ty = false)
    {sp dp n : Int32} (h1 : ¬ sp < 0) (h2 : ¬ dp < 0) (h3 : ¬ n < 0) (h4 : sp.toNatClampNeg + n.toNatClampNeg ≤ n0) (h5 : dp.toNatClampNeg + n.toNatClampNeg ≤ n1) (hfit : ∀ z : α, fits ty (mk z) = true) (href : ∀ z : α, ∀ q, mk z ≠ .ref q) (hw : (rest.map fun v => v.category).sum ≤ 8) (hd : decode (zby mid) pc = .ok (.invokestatic v, 3))
    (kk : ∀ locs1 : List Loc, (∀ q ∈ locs1, q ∈ locs ∨ q.base = a1) → W p l e R s m args below meth c (H.setIfInBounds a1 (arrV c1 n1 (fun j => mk (va_cpy f g sp.toNatClampNeg dp.toNatClampNeg n.toNatClampNeg j)))) locs1 cells slots Q (F0 m (pc + 3) lr rest)) : W p l e R s m args below meth c H locs cells slots Q (F0 m pc lr (.int n :: .int dp :: .ref a1 :: .int sp :: .ref a0 :: rest)) := by
  have nn : ∀ z : Int32, ¬ z < 0 → z.toInt = (z.toNatClampNeg : Int) := by
    intro z hz
    have h9 : (0 : Int) ≤ z.toInt := by simpa using Int32.le_iff_toInt_le.mp (Int32.not_lt.mp hz)
    show z.toInt = ((z.toInt.toNat : Nat) : Int)
    omega
  have hts := C.2.2.2.2.2.1
  have hroom : 2 * (F0 m pc lr (.int n :: .int dp :: .ref a1 :: .int sp :: .ref a0 :: rest)).monitorRoom + (rest.map fun v => v.category).sum + (nativeFrameWords "java/lang/System" "arraycopy" 5 + 11) ≤ R.locals := by
    have h9 := C.2.2.2.2.2.2.2.2.2.2.2.2.2
    have hz : nativeFrameWords "java/lang/System" "arraycopy" 5 + 11 ≤ 40 := by decide +kernel
    show 2 * 0 + _ + _ ≤ _
    omega
  intro T hT Y
  obtain ⟨-, k0, hk0, cm0, hkk0⟩ := A0 n0 (fun j => mk (f j))
  obtain ⟨-, k1, hk1, cm1, hkk1⟩ := A1 n1 (fun j => mk (g j))
  obtain ⟨vm', Y', step⟩ := Y.arraycopy C.1 C.2.2.2.2.1 (hts _ (zTB_of (zWa_in _ hl) rfl)) (hts _ (zTB_of (tb_3 (List.mem_of_getElem? (i := 124) rfl)) rfl)) (hts _ (zTB_of (tb_3 (List.mem_of_getElem? (i := 123) rfl)) rfl)) (hts _ (zTB_of (tb_1 (List.mem_of_getElem? (i := 17) rfl)) rfl)) (src := a0) (dst := a1) (cs := arrV c0 n0 (fun j => mk (f j))) (cd := arrV c1 n1 (fun j => mk (g j))) (srcPos := sp) (destPos := dp) (n := n) (by rw [hT]; exact hc0) (by rw [hT]; exact hc1)
    (fun _ h => by cases h) (fun _ h => by cases h) (fun h => by cases h) (fun h => by cases h) hk0 hk1 hkk0 hkk1 (by simp [hprim]) h1 h2 h3
    (by rw [nn sp h1, nn n h3, arrV_size]; omega) (by rw [nn dp h2, nn n h3, arrV_size]; omega)
    (fun vm₁ _ i hi => by
      have e9 : (arrV c0 n0 (fun j => mk (f j))).slots.getD (sp.toNatClampNeg + i) .null = mk (f (sp.toNatClampNeg + i)) := by
        rw [Array.getD_eq_getD_getElem?, arrV_read _ _ (by omega)]
        rfl
      rw [e9]
      refine ⟨hfit _, ?_⟩
      cases hz : mk (f (sp.toNatClampNeg + i)) with
      | ref q => exact absurd hz (href _ q)
      | _ => exact trivial)
    (g := F0 m pc lr (.int n :: .int dp :: .ref a1 :: .int sp :: .ref a0 :: rest)) rfl (by rw [C.2.2.2.1]; exact hlr) (rest := rest) rfl (by rw [C.2.1]; exact hd) C.2.2.2.2.2.2.2.2.2.2.2.2.1 hroom
  have e1 : copied (arrV c0 n0 (fun j => mk (f j))) (arrV c1 n1 (fun j => mk (g j))) sp dp n = arrV c1 n1 (fun j => mk (va_cpy f g sp.toNatClampNeg dp.toNatClampNeg n.toNatClampNeg j)) := va_copied mk c0 c1 f g h4
  rw [e1] at Y' step
  obtain ⟨t, b1, b2⟩ := kk _ (fun q hq => by
    rcases List.mem_append.mp hq with h | h
    · exact Or.inl h
    · obtain ⟨z, -, hz⟩ := List.mem_map.mp h
      exact Or.inr (by rw [← hz])) _ (by rw [← hT]; rfl) Y'
  exact ⟨t, step t b1, b2⟩
theorem zwid_map {X : zXe} : ∀ st : List Value, ((st.map (zV X)).map fun v => v.category).sum = zWid st := by
  intro st
  unfold zWid
  rw [List.map_map]
  congr 1
  exact List.map_congr_left fun v _ => zV_cat
theorem s_copyI (C : zCx X D L xs PS mid N NS mc ms p R s m args meth c) {v r q : Nat} {sp dp n : Int32} (hd : decode (zby mid) pc = .ok (.invokestatic v, 3)) (hl : (zow mid, v) ∈ zWa) (h1 : ¬ sp < 0) (h2 : ¬ dp < 0) (h3 : ¬ n < 0) (h4 : sp.toNatClampNeg + n.toNatClampNeg ≤ (sK σ r).2) (h5 : dp.toNatClampNeg + n.toNatClampNeg ≤ (sK σ q).2) (hw : zWid st ≤ 8) (hr : (sK σ r).1 = 1) (hq : (sK σ q).1 = 1)
    (k : zW p l e R s m args below meth c Q X D L xs mid N NS mc ms (pc + 3) ls st (cpI σ r q sp.toNatClampNeg dp.toNatClampNeg n.toNatClampNeg)) : zW p l e R s m args below meth c Q X D L xs mid N NS mc ms pc ls (.int n :: .int dp :: .ref q :: .int sp :: .ref r :: st) σ := by
  intro H locs cells slots lr m1 m2 m3 m4 m5 m6 m7 m8
  obtain ⟨cA, g1, g2, g3, g4, g5, g6⟩ := id m1
  have ht : zarr 1 := Or.inl ⟨by omega, by omega⟩
  obtain ⟨r1, r2, r3⟩ := zarr_ref C m6 g5 hr ht
  obtain ⟨q1, q2, q3⟩ := zarr_ref C m6 g5 hq ht
  rw [List.map_cons, List.map_cons, List.map_cons, List.map_cons, List.map_cons, show zV X (.ref r) = zE X r from rfl, show zV X (.ref q) = zE X q from rfl, r3, q3]
  have er := zws_at (X := X) (cA := cA) r1 r2
  rw [zcell_i hr (Or.inl rfl)] at er
  have eq := zws_at (X := X) (cA := cA) q1 q2
  rw [zcell_i hq (Or.inl rfl)] at eq
  have hA := g1 r r1 r2 (by rw [hr]; exact ht)
  rw [hr] at hA
  have c0 : H[X.1 + (r - 1)]? = some (arrV (cA 1) (sK σ r).2 (fun j => .int (sI σ r j))) := g2 _ _ er
  have c1 : H[X.1 + (q - 1)]? = some (arrV (cA 1) (sK σ q).2 (fun j => .int (sI σ q j))) := g2 _ _ eq
  refine z_copy (fun z => .int z) (fun _ h => by cases h) C m3.1 hl c0 c1 hA.1 hA.1 rfl h1 h2 h3 h4 h5 (fun _ => rfl) (fun _ _ h => by cases h) (by rw [zwid_map]; exact hw) hd fun locs1 hl1 => ?_
  have hlt : X.1 + (q - 1) < H.size := (Array.getElem?_eq_some_iff.mp c1).1
  have oq : ∀ z : Nat, z ≠ X.1 + (q - 1) → (H.setIfInBounds (X.1 + (q - 1)) (arrV (cA 1) (sK σ q).2 (fun j => .int (va_cpy (sI σ r) (sI σ q) sp.toNatClampNeg dp.toNatClampNeg n.toNatClampNeg j))))[z]? = H[z]? := fun z hz => by simp [Array.getElem?_setIfInBounds, Ne.symm hz]
  refine k _ _ cells slots lr (zSm_write (r := q) g1 g2 g3 g4 g5 g6 q1 q2 rfl (fun a ha i => if_neg ha) (fun _ _ _ => rfl) (fun _ _ _ => rfl) ?_ (by simp) oq) ⟨by simp; exact m2.1, fun z z1 z2 => by rw [oq z (fun h => z2 (by rw [h]; exact Nat.le_add_right _ _))]; exact m2.2.1 z z1 z2, fun z hz => by
    rcases hl1 z hz with h | h
    · exact m2.2.2 z h
    · rw [h]; exact Nat.le_add_right _ _⟩ m3 m4 m5 m6 m7 m8
  rw [zcell_i (σ := cpI σ r q sp.toNatClampNeg dp.toNatClampNeg n.toNatClampNeg) hq (Or.inl rfl)]
  show (H.setIfInBounds _ _)[_]? = some (vp_cell _ _)
  rw [Array.getElem?_setIfInBounds_self_of_lt hlt, vp_cell_i]
  congr 2
  funext j
  show Value.int _ = Value.int (if q = q then va_cpy (sI σ r) (sI σ q) sp.toNatClampNeg dp.toNatClampNeg n.toNatClampNeg j else sI σ q j)
  rw [if_pos rfl]
theorem s_copyL (C : zCx X D L xs PS mid N NS mc ms p R s m args meth c) {v r q : Nat} {sp dp n : Int32} (hd : decode (zby mid) pc = .ok (.invokestatic v, 3)) (hl : (zow mid, v) ∈ zWa) (h1 : ¬ sp < 0) (h2 : ¬ dp < 0) (h3 : ¬ n < 0) (h4 : sp.toNatClampNeg + n.toNatClampNeg ≤ (sK σ r).2) (h5 : dp.toNatClampNeg + n.toNatClampNeg ≤ (sK σ q).2) (hw : zWid st ≤ 8) (hr : (sK σ r).1 = 2) (hq : (sK σ q).1 = 2)
    (k : zW p l e R s m args below meth c Q X D L xs mid N NS mc ms (pc + 3) ls st (cpL σ r q sp.toNatClampNeg dp.toNatClampNeg n.toNatClampNeg)) : zW p l e R s m args below meth c Q X D L xs mid N NS mc ms pc ls (.int n :: .int dp :: .ref q :: .int sp :: .ref r :: st) σ := by
  intro H locs cells slots lr m1 m2 m3 m4 m5 m6 m7 m8
  obtain ⟨cA, g1, g2, g3, g4, g5, g6⟩ := id m1
  have ht : zarr 2 := Or.inl ⟨by omega, by omega⟩
  obtain ⟨r1, r2, r3⟩ := zarr_ref C m6 g5 hr ht
  obtain ⟨q1, q2, q3⟩ := zarr_ref C m6 g5 hq ht
  rw [List.map_cons, List.map_cons, List.map_cons, List.map_cons, List.map_cons, show zV X (.ref r) = zE X r from rfl, show zV X (.ref q) = zE X q from rfl, r3, q3]
  have er := zws_at (X := X) (cA := cA) r1 r2
  rw [zcell_l hr] at er
  have eq := zws_at (X := X) (cA := cA) q1 q2
  rw [zcell_l hq] at eq
  have hA := g1 r r1 r2 (by rw [hr]; exact ht)
  rw [hr] at hA
  have c0 : H[X.1 + (r - 1)]? = some (arrV (cA 2) (sK σ r).2 (fun j => .long (sL σ r j))) := g2 _ _ er
  have c1 : H[X.1 + (q - 1)]? = some (arrV (cA 2) (sK σ q).2 (fun j => .long (sL σ q j))) := g2 _ _ eq
  refine z_copy (fun z => .long z) (fun _ h => by cases h) C m3.1 hl c0 c1 hA.1 hA.1 rfl h1 h2 h3 h4 h5 (fun _ => rfl) (fun _ _ h => by cases h) (by rw [zwid_map]; exact hw) hd fun locs1 hl1 => ?_
  have hlt : X.1 + (q - 1) < H.size := (Array.getElem?_eq_some_iff.mp c1).1
  have oq : ∀ z : Nat, z ≠ X.1 + (q - 1) → (H.setIfInBounds (X.1 + (q - 1)) (arrV (cA 2) (sK σ q).2 (fun j => .long (va_cpy (sL σ r) (sL σ q) sp.toNatClampNeg dp.toNatClampNeg n.toNatClampNeg j))))[z]? = H[z]? := fun z hz => by simp [Array.getElem?_setIfInBounds, Ne.symm hz]
  refine k _ _ cells slots lr (zSm_write (r := q) g1 g2 g3 g4 g5 g6 q1 q2 rfl (fun _ _ _ => rfl) (fun a ha i => if_neg ha) (fun _ _ _ => rfl) ?_ (by simp) oq) ⟨by simp; exact m2.1, fun z z1 z2 => by rw [oq z (fun h => z2 (by rw [h]; exact Nat.le_add_right _ _))]; exact m2.2.1 z z1 z2, fun z hz => by
    rcases hl1 z hz with h | h
    · exact m2.2.2 z h
    · rw [h]; exact Nat.le_add_right _ _⟩ m3 m4 m5 m6 m7 m8
  rw [zcell_l (σ := cpL σ r q sp.toNatClampNeg dp.toNatClampNeg n.toNatClampNeg) hq]
  show (H.setIfInBounds _ _)[_]? = some (vp_cell _ _)
  rw [Array.getElem?_setIfInBounds_self_of_lt hlt, vp_cell_l]
  congr 2
  funext j
  show Value.long _ = Value.long (if q = q then va_cpy (sL σ r) (sL σ q) sp.toNatClampNeg dp.toNatClampNeg n.toNatClampNeg j else sL σ q j)
  rw [if_pos rfl]
theorem s_objinit (C : zCx X D L xs PS mid N NS mc ms p R s m args meth c) {v r : Nat} (hd : decode (zby mid) pc = .ok (.invokespecial v, 3)) (hl : (zow mid, v) ∈ zWo) (hr : r < zNul) (hw : zWid st ≤ 8)
    (k : zW p l e R s m args below meth c Q X D L xs mid N NS mc ms (pc + 3) ls st σ) : zW p l e R s m args below meth c Q X D L xs mid N NS mc ms pc ls (.ref r :: st) σ := by
  intro H locs cells slots lr h1 h2 h3 h4 h5 h6 h7 h8
  have hts := C.2.2.2.2.2.1
  have hz : ∃ q, zE X r = .ref q := by
    unfold zE zEo
    by_cases h0 : r = 0
    · rw [if_pos h0]; exact ⟨_, rfl⟩
    · rw [if_neg h0, if_pos hr]; exact ⟨_, rfl⟩
  obtain ⟨q, hq⟩ := hz
  rw [List.map_cons, show zV X (.ref r) = zE X r from rfl, hq]
  refine W.objInit C.1 C.2.1 C.2.2.2.2.1 (hts _ (zTB_of (zWo_in _ hl) rfl)) (hts _ (zTB_of (tb_1 (List.mem_of_getElem? (i := 27) rfl)) rfl)) (hts _ (zTB_of (tb_1 (List.mem_of_getElem? (i := 28) rfl)) rfl)) rfl (by rw [C.2.2.2.1]; exact h3.1) rfl hd C.2.2.2.2.2.2.2.2.2.2.2.2.1 ?_ (k H locs cells slots lr h1 h2 h3 h4 h5 h6 h7 h8)
  have h9 := C.2.2.2.2.2.2.2.2.2.2.2.2.2
  have hw2 := zwid_map (X := X) st
  show 2 * 0 + _ + _ ≤ _
  omega
end ZM
