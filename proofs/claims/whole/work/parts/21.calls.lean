/-- what the Strings' own knowledge must bear -/
def zPSok (X : zXe) (PS : State → Prop) : Prop := ∀ u U : State, u.WarmedH U.vm → (∀ q, q < X.1 → U.heap[q]? = u.heap[q]?) → X.1 ≤ U.heap.size → PS u → PS U
theorem zG.moved {X : zXe} {D : va_G} {L : Nat} {xs : Nat → Int32} {PS : State → Prop} (hPS : zPSok X PS) {u U : State} (hW : u.WarmedH U.vm) (hh : ∀ q, q < X.1 → U.heap[q]? = u.heap[q]?) (hs : X.1 ≤ U.heap.size) (h : zG X D L xs PS u) : zG X D L xs PS U := by
  obtain ⟨a1, a2, a3, a4, a5, a6, a7, a8⟩ := h
  exact ⟨fun c q hq => u_Kn_moved hW.alike (a1 c q hq), (a2.kept (hh _ a3)).moved hW.alike, a3, hs, fun q hq => va_Nw.warmM hW (a5 q hq), fun ci hc => (a6 ci hc).moved hW.alike, fun q hq => (a7 q hq).imp fun tx h => h.warm hW, hPS u U hW hh hs a8⟩
def zPc (X : zXe) (D : va_G) (L : Nat) (xs : Nat → Int32) (PS : State → Prop) (as : List Value) (σ : MS) : Array Value → State → Prop := va_Pc (as.map (zV X)) (fun U => zG X D L xs PS U ∧ zSm X D L xs σ U U.heap)
def zQc (X : zXe) (D : va_G) (L : Nat) (xs : Nat → Int32) (r : Option Value) (τ : MS) : Array Value → State → Outcome → State → Prop := fun _ st oc t => oc = .returned (r.map (zV X)) ∧ zSm X D L xs τ t t.heap ∧ va_F (fun q => X.1 ≤ q) st t
theorem zPc_blind {X : zXe} {D : va_G} {L : Nat} {xs : Nat → Int32} {PS : State → Prop} (hPS : zPSok X PS) {as : List Value} {σ : MS} : FrameBlind (zPc X D L xs PS as σ) := by
  intro a U g mk h
  obtain ⟨h1, h2, h3⟩ := h
  exact ⟨h1, zG.moved (u := U) (U := U.calling g mk a) hPS (State.WarmedH.refl U) (fun _ _ => rfl) h2.2.2.2.1 h2, zSm.moved (u := U) (U := U.calling g mk a) (Vm.Alike.refl U.vm) h3⟩
def zRm (d mc ms : Nat) : Room := { frames := d + 1, cells := mc, slots := ms, locals := 60 * (d + 1) }
def zMw (a : Nat) : List Cond := Cond.code (zmn a) (zby a) (zmx a) (zrt a) :: zTB
/-- a method of the small machine, as a contract on the machine -/
def zMet (l : Launch) (X : zXe) (D : va_G) (L : Nat) (xs : Nat → Int32) (PS : State → Prop) (d a : Nat) (as : List Value) (σ : MS) (r : Option Value) (τ : MS) : Prop :=
  Met l (zmn a) (zMw a) (zRm d (τ.1.length - σ.1.length) (zsl τ - zsl σ)) (zPc X D L xs PS as σ) (zQc X D L xs r τ) (τ.1.length - σ.1.length) (zsl τ - zsl σ) (fun q => X.1 ≤ q)
theorem zMw_good (a : Nat) (h : a ∈ zWc) : GoodIn zTB (zMw a) := by
  intro w hw
  rcases List.mem_cons.mp hw with rfl | hw
  · exact ⟨zTB_of (zWc_in a h) rfl, good_of_word rfl⟩
  · exact ⟨hw, good_of_word (List.mem_filter.mp hw).2⟩
def zWcs : List Nat := List.range 500
theorem zmx_le : ∀ a ∈ zWcs, zmx a ≤ 41 := by decide +kernel
theorem zpn_ok : ∀ i ∈ List.range 16, i ≠ 14 → plainName (zcn i) = true := by decide +kernel
theorem zpl_ok : ∀ i ∈ List.range 16, zcn i ≠ "java/lang/invoke/MethodHandle" ∧ zcn i ≠ "java/lang/invoke/VarHandle" := by decide +kernel
section ZC
variable {p : Program} {l : Launch} {e : Env} {R : Room} {s : State} {m : MethodId} {args : Array Value} {below : List Frame} {meth : Method} {c : Code} {Q : State → Prop} {X : zXe} {D : va_G} {L : Nat} {xs : Nat → Int32} {PS : State → Prop} {mid N NS mc ms : Nat} {pc : Nat} {ls st : List Value} {σ τ : MS}
theorem zW_run {H : Heap} {locs : List Loc} {cells slots m1 m2 : Nat} {lr : Array Slot} {st0 rest : List Value} {Qa : State → Outcome → State → Prop} {free : Addr → Prop} (hr : va_Run p l e R s m args below meth c H locs cells slots m1 m2 (F0 m pc lr st0) rest Qa free)
    (kk : ∀ (v : Option Value) (st₀ t : State) (L1 : List Loc), st₀.heap = H → s.vm.Alike t.vm → Qa st₀ (.returned v) t → (∀ q ∈ L1, free q.base) → W p l e R s m args below meth c t.heap (locs ++ L1) (cells + m1) (slots + m2) Q (F0 m (pc + 3) lr (v.toList ++ rest))) : W p l e R s m args below meth c H locs cells slots Q (F0 m pc lr st0) := by
  intro T hT Y
  obtain ⟨v, st₀, t, T', L1, h0, Y', hL, e1, e2, hq, st⟩ := hr T hT Y
  obtain ⟨t2, a1, b1⟩ := kk v st₀ t L1 h0 (by rw [← e2]; exact Y'.warmed.alike) hq hL T' e1 Y'
  exact ⟨t2, st t2 a1, b1⟩
/-- behind a call -/
theorem z_after (C : zCx X D L xs PS mid N NS mc ms p R s m args meth c) {H : Heap} {locs : List Loc} {cells slots : Nat} {lr : Array Slot} {st0 : List Value} {as : Array Value} {rv : Option Value} {ρ : MS} (hg : rv.toList.all zgd = true) (h1 : zSm X D L xs σ s H) (h2 : va_S (fun q => X.1 ≤ q) s.heap H locs) (h3 : zLv X lr (zmx mid) ls) (h4 : cells + N = mc + σ.1.length) (h5 : slots + NS = ms + zsl σ) (h8 : st.all zgd = true) (n1 : σ.1.length ≤ ρ.1.length) (n2 : ρ.1.length ≤ N) (n3 : zsl σ ≤ zsl ρ) (n4 : zsl ρ ≤ NS)
    (k : zW p l e R s m args below meth c Q X D L xs mid N NS mc ms (pc + 3) ls (rv.toList ++ st) ρ)
    (hr : va_Run p l e R s m args below meth c H locs cells slots (ρ.1.length - σ.1.length) (zsl ρ - zsl σ) (F0 m pc lr st0) (st.map (zV X)) (zQc X D L xs rv ρ as) (fun q => X.1 ≤ q)) : W p l e R s m args below meth c H locs cells slots Q (F0 m pc lr st0) := by
  refine zW_run hr fun v st₀ t L1 e0 hal hq hL => ?_
  obtain ⟨q1, q2, q3⟩ := hq
  cases q1
  rw [va_F, e0] at q3
  have hk := k t.heap (locs ++ L1) (cells + (ρ.1.length - σ.1.length)) (slots + (zsl ρ - zsl σ)) lr (q2.moved hal.symm) ⟨Nat.le_trans h2.1 q3.1, fun q z1 z2 => (q3.2 q (Nat.lt_of_lt_of_le z1 h2.1) z2).trans (h2.2.1 q z1 z2), fun q hq => by
    rcases List.mem_append.mp hq with h | h
    · exact h2.2.2 q h
    · exact hL q h⟩ h3 (by omega) (by omega) n2 n4 (by rw [List.all_append, hg, h8]; rfl)
  rw [List.map_append] at hk
  have e9 : (rv.map (zV X)).toList = rv.toList.map (zV X) := by cases rv <;> rfl
  rw [e9]
  exact hk
theorem z_pre (C : zCx X D L xs PS mid N NS mc ms p R s m args meth c) (hPS : zPSok X PS) {H : Heap} {locs : List Loc} (h1 : zSm X D L xs σ s H) (h2 : va_S (fun q => X.1 ≤ q) s.heap H locs) (as : List Value) : ∀ U : State, U.heap = H → s.WarmedH U.vm → zPc X D L xs PS as σ (as.map (zV X)).toArray U := by
  intro U hU hW
  have hG := C.2.2.2.2.2.2.2.2.1
  refine ⟨rfl, hG.moved hPS hW (fun q hq => ?_) ?_, by rw [hU]; exact h1.moved hW.alike⟩
  · rw [hU]
    exact h2.2.1 q (Nat.lt_of_lt_of_le hq hG.2.2.2.1) (Nat.not_le.mpr hq)
  · rw [hU]
    exact Nat.le_trans hG.2.2.2.1 h2.1
theorem z_callB (C : zCx X D L xs PS mid N NS mc ms p R s m args meth c) {v a d n : Nat} {m1 m2 : Nat} (hl : (zow mid, v, a) ∈ zWm) (hc : a ∈ zWc) (hi : zow a ∈ zWk) (hcl : (zmn a).cls = zcn (zow a)) (hn : (parseMethodDescriptor (zmn a).desc).map (fun d => d.parameters.length) = some n) (ha : a < 500) (how : zow a < 16) (hf : d + 2 ≤ R.frames) (hlo : 60 * (d + 2) ≤ R.locals) :
    CallB R s args (zcn (zow mid)) v (zmn a) (zby a) (zmx a) (zrt a) (zMw a) (zRm d m1 m2) m1 m2 n := by
  have hts := C.2.2.2.2.2.1
  have hpl := zpl_ok (zow a) (List.mem_range.mpr how)
  have hmx := zmx_le a (List.mem_range.mpr ha)
  refine callB_of n hts (zMw_good a hc) rfl rfl rfl (by rw [hcl]; exact hts _ (zTB_of (zWk_in _ hi) rfl)) (hts _ (zTB_of (zWm_in _ hl) rfl)) ⟨by rw [hcl]; exact hpl.1, by rw [hcl]; exact hpl.2, hn⟩ ⟨by show d + 1 + 1 ≤ R.frames; omega, by show 8 + (zmx a + 11) + 60 * (d + 1) ≤ R.locals; omega⟩
/-- invokevirtual -/
theorem s_virt (C : zCx X D L xs PS mid N NS mc ms p R s m args meth c) (hPS : zPSok X PS) {v a d u r : Nat} {As : List Value} {rv : Option Value} {ρ : MS} (hd : decode (zby mid) pc = .ok (.invokevirtual v, 3)) (hl : (zow mid, v, a) ∈ zWm ∨ (zow mid, v, a) ∈ zWn) (hc : a ∈ zWc) (hi : zow a ∈ zWk) (hin : a ∈ zWi) (hse : a ∈ zWv) (hcl : (zmn a).cls = zcn (zow a)) (hn : (parseMethodDescriptor (zmn a).desc).map (fun d => d.parameters.length) = some As.length) (ha : a < 500) (how : zow a = u) (hu : u < 12) (hf : d + 2 ≤ R.frames) (hlo : 60 * (d + 2) ≤ R.locals)
    (hw : zWid st ≤ 8) (hr : sK σ r = (0, u)) (hM : As.all zgd = true → zMet l X D L xs PS d a (.ref r :: As) σ rv ρ) (hg : rv.toList.all zgd = true) (n1 : σ.1.length ≤ ρ.1.length) (n2 : ρ.1.length ≤ N) (n3 : zsl σ ≤ zsl ρ) (n4 : zsl ρ ≤ NS)
    (k : zW p l e R s m args below meth c Q X D L xs mid N NS mc ms (pc + 3) ls (rv.toList ++ st) ρ) : zW p l e R s m args below meth c Q X D L xs mid N NS mc ms pc ls (As.reverse ++ .ref r :: st) σ := by
  intro H locs cells slots lr h1 h2 h3 h4 h5 h6 h7 h8
  have hts := C.2.2.2.2.2.1
  obtain ⟨cA, g1, g2, g3, g4, g5, g6⟩ := id h1
  obtain ⟨r1, r2, r3⟩ := zcellref C h6 g5 (r := r) (by rw [hr]; exact (by decide : (0 : Nat) ≠ 99)) (by rw [hr]; exact (by decide : (0 : Nat) ≠ 6))
  have he := zws_at (X := X) (cA := cA) r1 r2
  rw [zcell_o hr] at he
  rw [List.all_append, Bool.and_eq_true, List.all_cons, Bool.and_eq_true] at h8
  have hmc := C.2.2.2.2.2.2.2.2.2.2.1
  have hms := C.2.2.2.2.2.2.2.2.2.2.2.1
  have hpl := zpl_ok (zow a) (List.mem_range.mpr (by omega))
  have hmx := zmx_le a (List.mem_range.mpr ha)
  have hpre : ∀ U : State, U.heap = H → s.WarmedH U.vm → zPc X D L xs PS (.ref r :: As) σ (Value.ref (X.1 + (r - 1)) :: As.map (zV X)).toArray U := by
    have h9 := z_pre C hPS h1 h2 (.ref r :: As)
    rw [List.map_cons, show zV X (.ref r) = zE X r from rfl, r3] at h9
    exact h9
  have hM2 := hM (by rw [← List.all_reverse]; exact h8.1)
  have hrow : 2 * (F0 m pc lr ((As.reverse ++ .ref r :: st).map (zV X))).monitorRoom + ((st.map (zV X)).map fun v => v.category).sum ≤ 8 := by
    have hw2 := zwid_map (X := X) st
    show 2 * 0 + _ ≤ 8
    omega
  have hstk : (As.reverse ++ .ref r :: st).map (zV X) = (As.map (zV X)).reverse ++ .ref (X.1 + (r - 1)) :: st.map (zV X) := by
    rw [List.map_append, List.map_reverse, List.map_cons, show zV X (.ref r) = zE X r from rfl, r3]
  have hsel : (Cond.selects (zcn u) (zmn a) (zmn a)).before args s = true := by
    have h9 := hts _ (zTB_of (zWv_in _ hse) rfl)
    rw [how] at h9
    exact h9
  refine z_after (as := (Value.ref (X.1 + (r - 1)) :: As.map (zV X)).toArray) C hg h1 h2 h3 h4 h5 h8.2.2 n1 n2 n3 n4 k ?_
  rcases hl with hl | hl
  · exact va_runV (C := zcn u) (b := X.1 + (r - 1)) (As := As.map (zV X)) (n := As.length) ⟨C.1, C.2.1, C.2.2.2.1, C.2.2.2.2.1, hts⟩ hM2 ⟨z_callB C hl hc hi hcl hn ha (by omega) hf hlo, hts _ (zTB_of (zWi_in _ hin) rfl), hsel⟩ ⟨zPc_blind hPS, va_recv (zKof C) g2 (zcls_at u hu) he, hpre⟩ rfl (by rw [List.length_map]) h3.1 hstk hrow hd ⟨by omega, by omega⟩
  · have hnw := C.2.2.2.2.2.2.2.2.1.2.2.2.2.1 (zow mid, v, a) hl
    dsimp only at hnw
    have hini2 : (Cond.initialized (zmn a).cls).before args s = true := by rw [hcl]; exact hts _ (zTB_of (zWk_in _ hi) rfl)
    exact va_runVN (C := zcn u) (b := X.1 + (r - 1)) (As := As.map (zV X)) (n := As.length) ⟨C.1, C.2.1, C.2.2.2.1, C.2.2.2.2.1, hts⟩ hM2 ⟨va_cnB (R := R) (own := zcn (zow mid)) (host := "LikeRegistry") (index := v) (y := zmn a) (bytes := zby a) (maxL := zmx a) (ret := zrt a) (ws := zMw a) (ws' := zTB) (Ts := zTB) (rm := zRm d (ρ.1.length - σ.1.length) (zsl ρ - zsl σ)) (mc := ρ.1.length - σ.1.length) (ms := zsl ρ - zsl σ) As.length hts (zMw_good a hc) rfl rfl rfl hnw hini2 ⟨by rw [hcl]; exact hpl.1, by rw [hcl]; exact hpl.2, hn⟩ ⟨by show d + 1 + 1 ≤ R.frames; omega, by show 8 + (zmx a + 11) + 60 * (d + 1) ≤ R.locals; omega⟩, hts _ (zTB_of (zWi_in _ hin) rfl), hsel⟩ ⟨zPc_blind hPS, va_recv (zKof C) g2 (zcls_at u hu) he, hpre⟩ rfl (by rw [List.length_map]) h3.1 hstk hrow hd ⟨by omega, by omega⟩
/-- invokestatic -/
theorem s_stat (C : zCx X D L xs PS mid N NS mc ms p R s m args meth c) (hPS : zPSok X PS) {v a d : Nat} {As : List Value} {rv : Option Value} {ρ : MS} (hd : decode (zby mid) pc = .ok (.invokestatic v, 3)) (hl : (zow mid, v, a) ∈ zWm) (hc : a ∈ zWc) (hi : zow a ∈ zWk) (hst : a ∈ zWs) (hcl : (zmn a).cls = zcn (zow a)) (hn : (parseMethodDescriptor (zmn a).desc).map (fun d => d.parameters.length) = some As.length) (ha : a < 500) (how : zow a < 16) (hf : d + 2 ≤ R.frames) (hlo : 60 * (d + 2) ≤ R.locals)
    (hw : zWid st ≤ 8) (hM : As.all zgd = true → zMet l X D L xs PS d a As σ rv ρ) (hg : rv.toList.all zgd = true) (n1 : σ.1.length ≤ ρ.1.length) (n2 : ρ.1.length ≤ N) (n3 : zsl σ ≤ zsl ρ) (n4 : zsl ρ ≤ NS)
    (k : zW p l e R s m args below meth c Q X D L xs mid N NS mc ms (pc + 3) ls (rv.toList ++ st) ρ) : zW p l e R s m args below meth c Q X D L xs mid N NS mc ms pc ls (As.reverse ++ st) σ := by
  intro H locs cells slots lr h1 h2 h3 h4 h5 h6 h7 h8
  have hts := C.2.2.2.2.2.1
  rw [List.all_append, Bool.and_eq_true] at h8
  have hmc := C.2.2.2.2.2.2.2.2.2.2.1
  have hms := C.2.2.2.2.2.2.2.2.2.2.2.1
  refine z_after C hg h1 h2 h3 h4 h5 h8.2 n1 n2 n3 n4 k (va_runS (As := As.map (zV X)) (n := As.length) ⟨C.1, C.2.1, C.2.2.2.1, C.2.2.2.2.1, hts⟩ (hM (by rw [← List.all_reverse]; exact h8.1)) ⟨z_callB C hl hc hi hcl hn ha how hf hlo, hts _ (zTB_of (zWs_in _ hst) rfl)⟩ ⟨zPc_blind hPS, z_pre C hPS h1 h2 As⟩ rfl (by rw [List.length_map]) h3.1 ?_ ?_ hd ⟨by omega, by omega⟩)
  · rw [List.map_append, List.map_reverse]
  · have hw2 := zwid_map (X := X) st
    show 2 * 0 + _ ≤ 8
    omega
/-- invokespecial of a constructor, its own class's or a nest mate's -/
theorem s_spec (C : zCx X D L xs PS mid N NS mc ms p R s m args meth c) (hPS : zPSok X PS) {v a d u r : Nat} {As : List Value} {rv : Option Value} {ρ : MS} (hd : decode (zby mid) pc = .ok (.invokespecial v, 3)) (hl : (zow mid, v, a) ∈ zWm ∨ (zow mid, v, a) ∈ zWn) (hc : a ∈ zWc) (hi : zow a ∈ zWk) (hin : a ∈ zWi) (hini : a ∈ zIni) (hrt : zrt a = none) (hcl : (zmn a).cls = zcn (zow a)) (hn : (parseMethodDescriptor (zmn a).desc).map (fun d => d.parameters.length) = some As.length) (ha : a < 500) (how : zow a < 16) (hf : d + 2 ≤ R.frames) (hlo : 60 * (d + 2) ≤ R.locals)
    (hw : zWid st ≤ 8) (hr : sK σ r = (0, u)) (hM : As.all zgd = true → zMet l X D L xs PS d a (.ref r :: As) σ rv ρ) (hg : rv.toList.all zgd = true) (n1 : σ.1.length ≤ ρ.1.length) (n2 : ρ.1.length ≤ N) (n3 : zsl σ ≤ zsl ρ) (n4 : zsl ρ ≤ NS)
    (k : zW p l e R s m args below meth c Q X D L xs mid N NS mc ms (pc + 3) ls (rv.toList ++ st) ρ) : zW p l e R s m args below meth c Q X D L xs mid N NS mc ms pc ls (As.reverse ++ .ref r :: st) σ := by
  intro H locs cells slots lr h1 h2 h3 h4 h5 h6 h7 h8
  have hts := C.2.2.2.2.2.1
  obtain ⟨cA, g1, g2, g3, g4, g5, g6⟩ := id h1
  obtain ⟨r1, r2, r3⟩ := zcellref C h6 g5 (r := r) (by rw [hr]; exact (by decide : (0 : Nat) ≠ 99)) (by rw [hr]; exact (by decide : (0 : Nat) ≠ 6))
  rw [List.all_append, Bool.and_eq_true, List.all_cons, Bool.and_eq_true] at h8
  have hmc := C.2.2.2.2.2.2.2.2.2.2.1
  have hms := C.2.2.2.2.2.2.2.2.2.2.2.1
  have hpl := zpl_ok (zow a) (List.mem_range.mpr how)
  have hmx := zmx_le a (List.mem_range.mpr ha)
  have hpre : ∀ U : State, U.heap = H → s.WarmedH U.vm → zPc X D L xs PS (.ref r :: As) σ (Value.ref (X.1 + (r - 1)) :: As.map (zV X)).toArray U := by
    have h9 := z_pre C hPS h1 h2 (.ref r :: As)
    rw [List.map_cons, show zV X (.ref r) = zE X r from rfl, r3] at h9
    exact h9
  have hM2 := hM (by rw [← List.all_reverse]; exact h8.1)
  have hrow : 2 * (F0 m pc lr ((As.reverse ++ .ref r :: st).map (zV X))).monitorRoom + ((st.map (zV X)).map fun v => v.category).sum ≤ 8 := by
    have hw2 := zwid_map (X := X) st
    show 2 * 0 + _ ≤ 8
    omega
  have hstk : (As.reverse ++ .ref r :: st).map (zV X) = (As.map (zV X)).reverse ++ .ref (X.1 + (r - 1)) :: st.map (zV X) := by
    rw [List.map_append, List.map_reverse, List.map_cons, show zV X (.ref r) = zE X r from rfl, r3]
  refine z_after (as := (Value.ref (X.1 + (r - 1)) :: As.map (zV X)).toArray) C hg h1 h2 h3 h4 h5 h8.2.2 n1 n2 n3 n4 k ?_
  rcases hl with hl | hl
  · refine va_runI (b := X.1 + (r - 1)) (As := As.map (zV X)) (n := As.length) ⟨C.1, C.2.1, C.2.2.2.1, C.2.2.2.2.1, hts⟩ hM2 ⟨by have h9 := z_callB (m1 := ρ.1.length - σ.1.length) (m2 := zsl ρ - zsl σ) C hl hc hi hcl hn ha how hf hlo; rw [hrt] at h9; exact h9, zIni_ok a hini, hts _ (zTB_of (zWi_in _ hin) rfl)⟩ ⟨zPc_blind hPS, hpre⟩ rfl (by rw [List.length_map]) h3.1 hstk hrow hd ⟨by omega, by omega⟩
  · have hnw := C.2.2.2.2.2.2.2.2.1.2.2.2.2.1 (zow mid, v, a) hl
    dsimp only at hnw
    have hini2 : (Cond.initialized (zmn a).cls).before args s = true := by rw [hcl]; exact hts _ (zTB_of (zWk_in _ hi) rfl)
    have hcn := va_cnB (R := R) (own := zcn (zow mid)) (host := "LikeRegistry") (index := v) (y := zmn a) (bytes := zby a) (maxL := zmx a) (ret := zrt a) (ws := zMw a) (ws' := zTB) (Ts := zTB) (rm := zRm d (ρ.1.length - σ.1.length) (zsl ρ - zsl σ)) (mc := ρ.1.length - σ.1.length) (ms := zsl ρ - zsl σ) As.length hts (zMw_good a hc) rfl rfl rfl hnw hini2 ⟨by rw [hcl]; exact hpl.1, by rw [hcl]; exact hpl.2, hn⟩ ⟨by show d + 1 + 1 ≤ R.frames; omega, by show 8 + (zmx a + 11) + 60 * (d + 1) ≤ R.locals; omega⟩
    rw [hrt] at hcn
    exact va_runIN (b := X.1 + (r - 1)) (As := As.map (zV X)) (n := As.length) ⟨C.1, C.2.1, C.2.2.2.1, C.2.2.2.2.1, hts⟩ hM2 ⟨hcn, zIni_ok a hini, hts _ (zTB_of (zWi_in _ hin) rfl)⟩ ⟨zPc_blind hPS, hpre⟩ rfl (by rw [List.length_map]) h3.1 hstk hrow hd ⟨by omega, by omega⟩
/-- Math.max, Math.min -/
def zMath (y : Nat) (as : List Value) (τ : MS) (rv : Option Value) (ρ : MS) : Prop := ∃ x z : Int32, as = [.int x, .int z] ∧ ρ = τ ∧ ((y = 388 ∧ rv = some (.int (if x < z then z else x))) ∨ (y = 389 ∧ rv = some (.int (if z < x then z else x))))
theorem s_math (C : zCx X D L xs PS mid N NS mc ms p R s m args meth c) {v a : Nat} {As : List Value} {rv : Option Value} {ρ : MS} (hd : decode (zby mid) pc = .ok (.invokestatic v, 3)) (hl : (zow mid, v, a) ∈ zWm) (hc : a ∈ zWc) (hst : a ∈ zWs) (hw : zWid st ≤ 8) (hM : zMath a As σ rv ρ)
    (k : zW p l e R s m args below meth c Q X D L xs mid N NS mc ms (pc + 3) ls (rv.toList ++ st) ρ) : zW p l e R s m args below meth c Q X D L xs mid N NS mc ms pc ls (As.reverse ++ st) σ := by
  intro H locs cells slots lr h1 h2 h3 h4 h5 h6 h7 h8
  have hts := C.2.2.2.2.2.1
  obtain ⟨x, z, rfl, rfl, hM⟩ := hM
  have hmc := C.2.2.2.2.2.2.2.2.2.2.1
  have hms := C.2.2.2.2.2.2.2.2.2.2.2.1
  have hlo := C.2.2.2.2.2.2.2.2.2.2.2.2.2
  have hl2 := hts _ (zTB_of (zWm_in (zow mid, v, a) hl) rfl)
  have hs2 := hts _ (zTB_of (zWs_in a hst) rfl)
  have hc2 := hts _ (zTB_of (zWc_in a hc) rfl)
  dsimp only at hl2
  have hi2 : (Cond.initialized "java/lang/Math").before args s = true := hts _ (zTB_of (tb_1 (List.mem_of_getElem? (i := 4) rfl)) rfl)
  have hw2 := zwid_map (X := X) st
  rcases hM with ⟨rfl, rfl⟩ | ⟨rfl, rfl⟩
  · rw [show zmn 388 = Lib.Math.max.name from rfl] at hl2 hs2 hc2
    exact va_mmax (ls := lr) (rest := st.map (zV X)) (x := x) (y := z) C.1 C.2.1 (C.2.2.2.1.trans h3.1.symm) C.2.2.2.2.1 hl2 hs2 hi2 hc2 C.2.2.2.2.2.2.2.2.2.2.2.2.1 (by omega) (by omega) (by omega) hd (k H locs cells slots lr h1 h2 h3 h4 h5 h6 h7 h8)
  · rw [show zmn 389 = Lib.Math.min.name from rfl] at hl2 hs2 hc2
    exact va_mmin (ls := lr) (rest := st.map (zV X)) (x := x) (y := z) C.1 C.2.1 (C.2.2.2.1.trans h3.1.symm) C.2.2.2.2.1 hl2 hs2 hi2 hc2 C.2.2.2.2.2.2.2.2.2.2.2.2.1 (by omega) (by omega) (by omega) hd (k H locs cells slots lr h1 h2 h3 h4 h5 h6 h7 h8)
/-! the ends -/
theorem s_iret (C : zCx X D L xs PS mid N NS mc ms p R s m args meth c) {x : Int32} {ty : FieldType} (hd : decode (zby mid) pc = .ok (.ireturn, 1)) (hr : zrt mid = some ty) (hn : narrow ty (.int x) = .int x) (hQ : Q = MQ below (zQc X D L xs (some (.int x)) σ) args s mc ms (fun q => X.1 ≤ q)) (hN : N = σ.1.length) (hNS : NS = zsl σ) : zW p l e R s m args below meth c Q X D L xs mid N NS mc ms pc ls [.int x] σ := by
  intro H locs cells slots lr h1 h2 h3 h4 h5 h6 h7 h8
  have e1 : cells = mc := by omega
  have e2 : slots = ms := by omega
  rw [hQ, ← e1, ← e2]
  exact W.zret (v := x) C.1 C.2.1 (C.2.2.1.trans hr) hn (fun t ht hW => ⟨rfl, by rw [ht]; exact h1.moved hW.alike, h2.F ht⟩) h2.2.2 hd C.2.2.2.2.2.2.1
theorem s_lret (C : zCx X D L xs PS mid N NS mc ms p R s m args meth c) {x : Int64} (hd : decode (zby mid) pc = .ok (.lreturn, 1)) (hr : zrt mid = some .long) (hQ : Q = MQ below (zQc X D L xs (some (.long x)) σ) args s mc ms (fun q => X.1 ≤ q)) (hN : N = σ.1.length) (hNS : NS = zsl σ) : zW p l e R s m args below meth c Q X D L xs mid N NS mc ms pc ls [.long x] σ := by
  intro H locs cells slots lr h1 h2 h3 h4 h5 h6 h7 h8
  have e1 : cells = mc := by omega
  have e2 : slots = ms := by omega
  rw [hQ, ← e1, ← e2]
  exact W.lret (v := x) C.1 C.2.1 (C.2.2.1.trans hr) (fun t ht hW => ⟨rfl, by rw [ht]; exact h1.moved hW.alike, h2.F ht⟩) h2.2.2 hd C.2.2.2.2.2.2.1
theorem s_vret (C : zCx X D L xs PS mid N NS mc ms p R s m args meth c) (hd : decode (zby mid) pc = .ok (.return_, 1)) (hr : zrt mid = none) (hQ : Q = MQ below (zQc X D L xs none σ) args s mc ms (fun q => X.1 ≤ q)) (hN : N = σ.1.length) (hNS : NS = zsl σ) : zW p l e R s m args below meth c Q X D L xs mid N NS mc ms pc ls [] σ := by
  intro H locs cells slots lr h1 h2 h3 h4 h5 h6 h7 h8
  have e1 : cells = mc := by omega
  have e2 : slots = ms := by omega
  rw [hQ, ← e1, ← e2]
  exact W.vret C.1 C.2.1 (C.2.2.1.trans hr) (fun t ht hW => ⟨rfl, by rw [ht]; exact h1.moved hW.alike, h2.F ht⟩) h2.2.2 hd C.2.2.2.2.2.2.1
theorem s_aret (C : zCx X D L xs PS mid N NS mc ms p R s m args meth c) {x : Nat} {cn : String} (hd : decode (zby mid) pc = .ok (.areturn, 1)) (hr : zrt mid = some (.object cn)) (hQ : Q = MQ below (zQc X D L xs (some (.ref x)) σ) args s mc ms (fun q => X.1 ≤ q)) (hN : N = σ.1.length) (hNS : NS = zsl σ) : zW p l e R s m args below meth c Q X D L xs mid N NS mc ms pc ls [.ref x] σ := by
  intro H locs cells slots lr h1 h2 h3 h4 h5 h6 h7 h8
  have e1 : cells = mc := by omega
  have e2 : slots = ms := by omega
  rw [hQ, ← e1, ← e2]
  refine W.aret (v := zV X (.ref x)) C.1 C.2.1 (C.2.2.1.trans hr) (Or.inl ⟨cn, rfl⟩) ?_ (fun t ht hW => ⟨rfl, by rw [ht]; exact h1.moved hW.alike, h2.F ht⟩) h2.2.2 hd C.2.2.2.2.2.2.1
  show va_rf (zEo X x) = .null ∨ ∃ a, va_rf (zEo X x) = .ref a
  cases zEo X x with
  | none => exact Or.inl rfl
  | some q => exact Or.inr ⟨q, rfl⟩
end ZC
