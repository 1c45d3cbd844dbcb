def zTB : List Cond := lw_tbl.filter goodWord
theorem zTB_of {w : Cond} (h : w ∈ lw_tbl) (g : goodWord w = true) : w ∈ zTB := List.mem_filter.mpr ⟨h, g⟩
theorem zcont {α : Type} [BEq α] [LawfulBEq α] {l : List α} {a : α} (h : l.contains a = true) : a ∈ l := List.contains_iff_mem.mp h
/-- what holds at every method's start -/
def zG (X : zXe) (D : va_G) (L : Nat) (xs : Nat → Int32) (PS : State → Prop) (U : State) : Prop := (∀ (c : Nat) (q : vw_C), zcls[c]? = some q → u_Kn U q.1 q.2.1 q.2.2 (D.1 c) (D.2 c)) ∧ va_X X.2.1 L xs U U.heap ∧ X.2.1 < X.1 ∧ X.1 ≤ U.heap.size ∧ (∀ q ∈ zWn, va_Nw (.methodLinkNest (zcn q.1) q.2.1 (zmn q.2.2) "LikeRegistry") U) ∧ (∀ ci ∈ [1, 5, 8], va_AO (zcn ci) U) ∧ (∀ q ∈ zWq, ∃ tx, vk_R (zcn q.1) q.2.1 tx (X.2.2 q.2.2) U) ∧ PS U
/-- inside the method mid -/
def zCx (X : zXe) (D : va_G) (L : Nat) (xs : Nat → Int32) (PS : State → Prop) (mid N NS mc ms : Nat) (p : Program) (R : Room) (s : State) (m : MethodId) (args : Array Value) (meth : Method) (c : Code) : Prop :=
  p.tables.exec = Jvm.exec ∧ c.code = zby mid ∧ meth.sig.returnType = zrt mid ∧ c.maxLocals = zmx mid ∧ s.vm.findClass (zcn (zow mid)) = some m.cls ∧ (∀ w ∈ zTB, w.before args s = true) ∧ meth.locks = false ∧ (mid ∈ zIni → meth.name = "<init>") ∧ zG X D L xs PS s ∧ N < zNul ∧ mc ≤ R.cells ∧ ms ≤ R.slots ∧ 1 ≤ R.frames ∧ 60 ≤ R.locals
section ZW
variable {p : Program} {l : Launch} {e : Env} {R : Room} {s : State} {m : MethodId} {args : Array Value} {below : List Frame} {meth : Method} {c : Code} {Q : State → Prop} {X : zXe} {D : va_G} {L : Nat} {xs : Nat → Int32} {PS : State → Prop} {mid N NS mc ms : Nat}
/-- from a state of the small machine, the machine comes to Q -/
def zW (p : Program) (l : Launch) (e : Env) (R : Room) (s : State) (m : MethodId) (args : Array Value) (below : List Frame) (meth : Method) (c : Code) (Q : State → Prop) (X : zXe) (D : va_G) (L : Nat) (xs : Nat → Int32) (mid N NS mc ms : Nat) (pc : Nat) (ls st : List Value) (σ : MS) : Prop :=
  ∀ (H : Heap) (locs : List Loc) (cells slots : Nat) (lr : Array Slot), zSm X D L xs σ s H → va_S (fun q => X.1 ≤ q) s.heap H locs → zLv X lr (zmx mid) ls → cells + N = mc + σ.1.length → slots + NS = ms + zsl σ → σ.1.length ≤ N → zsl σ ≤ NS → st.all zgd = true →
    W p l e R s m args below meth c H locs cells slots Q (F0 m pc lr (st.map (zV X)))
variable {pc : Nat} {ls st : List Value} {σ : MS}
theorem s_iconst (C : zCx X D L xs PS mid N NS mc ms p R s m args meth c) {v : Int} {w : Int32} (hd : decode (zby mid) pc = .ok (.iconst v, 1)) (hv : Int32.ofInt v = w) (k : zW p l e R s m args below meth c Q X D L xs mid N NS mc ms (pc + 1) ls (.int w :: st) σ) : zW p l e R s m args below meth c Q X D L xs mid N NS mc ms pc ls st σ := by
  intro H locs cells slots lr h1 h2 h3 h4 h5 h6 h7 h8
  exact lv_iconst C.1 C.2.1 hd hv (k H locs cells slots lr h1 h2 h3 h4 h5 h6 h7 h8)
theorem s_bipush (C : zCx X D L xs PS mid N NS mc ms p R s m args meth c) {v : Int} {w : Int32} (hd : decode (zby mid) pc = .ok (.bipush v, 2)) (hv : (Int8.ofInt v).toInt32 = w) (k : zW p l e R s m args below meth c Q X D L xs mid N NS mc ms (pc + 2) ls (.int w :: st) σ) : zW p l e R s m args below meth c Q X D L xs mid N NS mc ms pc ls st σ := by
  intro H locs cells slots lr h1 h2 h3 h4 h5 h6 h7 h8
  exact lv_bipush C.1 C.2.1 hd hv (k H locs cells slots lr h1 h2 h3 h4 h5 h6 h7 h8)
theorem s_sipush (C : zCx X D L xs PS mid N NS mc ms p R s m args meth c) {v : Int} {w : Int32} (hd : decode (zby mid) pc = .ok (.sipush v, 3)) (hv : (Int16.ofInt v).toInt32 = w) (k : zW p l e R s m args below meth c Q X D L xs mid N NS mc ms (pc + 3) ls (.int w :: st) σ) : zW p l e R s m args below meth c Q X D L xs mid N NS mc ms pc ls st σ := by
  intro H locs cells slots lr h1 h2 h3 h4 h5 h6 h7 h8
  exact lv_sipush C.1 C.2.1 hd hv (k H locs cells slots lr h1 h2 h3 h4 h5 h6 h7 h8)
theorem s_lconst (C : zCx X D L xs PS mid N NS mc ms p R s m args meth c) {v : Fin 2} {w : Int64} (hd : decode (zby mid) pc = .ok (.lconst v, 1)) (hv : Int64.ofNat (v : Nat) = w) (k : zW p l e R s m args below meth c Q X D L xs mid N NS mc ms (pc + 1) ls (.long w :: st) σ) : zW p l e R s m args below meth c Q X D L xs mid N NS mc ms pc ls st σ := by
  intro H locs cells slots lr h1 h2 h3 h4 h5 h6 h7 h8
  exact lv_lconst C.1 C.2.1 hd hv (k H locs cells slots lr h1 h2 h3 h4 h5 h6 h7 h8)
theorem s_ldc (C : zCx X D L xs PS mid N NS mc ms p R s m args meth c) {v : Nat} {w : Int32} (hd : decode (zby mid) pc = .ok (.ldc v, 2)) (hv : Cond.constant (zcn (zow mid)) v w ∈ zTB) (k : zW p l e R s m args below meth c Q X D L xs mid N NS mc ms (pc + 2) ls (.int w :: st) σ) : zW p l e R s m args below meth c Q X D L xs mid N NS mc ms pc ls st σ := by
  intro H locs cells slots lr h1 h2 h3 h4 h5 h6 h7 h8
  exact lv_ldc C.1 C.2.1 C.2.2.2.2.1 (C.2.2.2.2.2.1 _ hv) hd (k H locs cells slots lr h1 h2 h3 h4 h5 h6 h7 h8)
theorem s_ldc_w (C : zCx X D L xs PS mid N NS mc ms p R s m args meth c) {v : Nat} {w : Int32} (hd : decode (zby mid) pc = .ok (.ldc_w v, 3)) (hv : Cond.constant (zcn (zow mid)) v w ∈ zTB) (k : zW p l e R s m args below meth c Q X D L xs mid N NS mc ms (pc + 3) ls (.int w :: st) σ) : zW p l e R s m args below meth c Q X D L xs mid N NS mc ms pc ls st σ := by
  intro H locs cells slots lr h1 h2 h3 h4 h5 h6 h7 h8
  exact lv_ldcw C.1 C.2.1 C.2.2.2.2.1 (C.2.2.2.2.2.1 _ hv) hd (k H locs cells slots lr h1 h2 h3 h4 h5 h6 h7 h8)
theorem s_ldc2 (C : zCx X D L xs PS mid N NS mc ms p R s m args meth c) {v : Nat} {w : Int64} (hd : decode (zby mid) pc = .ok (.ldc2_w v, 3)) (hv : Cond.constantLong (zcn (zow mid)) v w ∈ zTB) (k : zW p l e R s m args below meth c Q X D L xs mid N NS mc ms (pc + 3) ls (.long w :: st) σ) : zW p l e R s m args below meth c Q X D L xs mid N NS mc ms pc ls st σ := by
  intro H locs cells slots lr h1 h2 h3 h4 h5 h6 h7 h8
  exact lv_ldc2 C.1 C.2.1 C.2.2.2.2.1 (C.2.2.2.2.2.1 _ hv) hd (k H locs cells slots lr h1 h2 h3 h4 h5 h6 h7 h8)
theorem zE_str {X : zXe} {a : Nat} : zE X (zStr + a) = .ref (X.2.2 a) := by
  unfold zE zEo
  rw [if_neg (by unfold zStr; omega), if_neg (by unfold zStr zNul; omega), if_neg (by omega), Nat.add_sub_cancel_left]
  rfl
theorem s_ldcS (C : zCx X D L xs PS mid N NS mc ms p R s m args meth c) {v a : Nat} (hd : decode (zby mid) pc = .ok (.ldc v, 2)) (hv : (zow mid, v, a) ∈ zWq) (k : zW p l e R s m args below meth c Q X D L xs mid N NS mc ms (pc + 2) ls (.ref (zStr + a) :: st) σ) : zW p l e R s m args below meth c Q X D L xs mid N NS mc ms pc ls st σ := by
  intro H locs cells slots lr h1 h2 h3 h4 h5 h6 h7 h8
  obtain ⟨tx, hR⟩ := C.2.2.2.2.2.2.2.2.1.2.2.2.2.2.2.1 _ hv
  refine va_ldcS C.1 C.2.1 C.2.2.2.2.1 hR hd ?_
  have k1 := k H locs cells slots lr h1 h2 h3 h4 h5 h6 h7 h8
  rw [List.map_cons, show zV X (.ref (zStr + a)) = .ref (X.2.2 a) from zE_str] at k1
  exact k1
theorem s_iload_n (C : zCx X D L xs PS mid N NS mc ms p R s m args meth c) {v : Fin 4} {a : Nat} {x : Int32} (hd : decode (zby mid) pc = .ok (.iload_n v, 1)) (hv : (v : Nat) = a) (hx : zGet ls a = .int x) (k : zW p l e R s m args below meth c Q X D L xs mid N NS mc ms (pc + 1) ls (.int x :: st) σ) : zW p l e R s m args below meth c Q X D L xs mid N NS mc ms pc ls st σ := by
  intro H locs cells slots lr h1 h2 h3 h4 h5 h6 h7 h8
  exact lv_iload_n C.1 C.2.1 hd hv (h3.at hx rfl) (k H locs cells slots lr h1 h2 h3 h4 h5 h6 h7 h8)
theorem s_iload (C : zCx X D L xs PS mid N NS mc ms p R s m args meth c) {v : Nat} {x : Int32} (hd : decode (zby mid) pc = .ok (.iload v, 2)) (hx : zGet ls v = .int x) (k : zW p l e R s m args below meth c Q X D L xs mid N NS mc ms (pc + 2) ls (.int x :: st) σ) : zW p l e R s m args below meth c Q X D L xs mid N NS mc ms pc ls st σ := by
  intro H locs cells slots lr h1 h2 h3 h4 h5 h6 h7 h8
  exact lv_iload C.1 C.2.1 hd (h3.at hx rfl) (k H locs cells slots lr h1 h2 h3 h4 h5 h6 h7 h8)
theorem s_lload_n (C : zCx X D L xs PS mid N NS mc ms p R s m args meth c) {v : Fin 4} {a : Nat} {x : Int64} (hd : decode (zby mid) pc = .ok (.lload_n v, 1)) (hv : (v : Nat) = a) (hx : zGet ls a = .long x) (k : zW p l e R s m args below meth c Q X D L xs mid N NS mc ms (pc + 1) ls (.long x :: st) σ) : zW p l e R s m args below meth c Q X D L xs mid N NS mc ms pc ls st σ := by
  intro H locs cells slots lr h1 h2 h3 h4 h5 h6 h7 h8
  exact lv_lload_n C.1 C.2.1 hd hv (h3.at hx rfl) (k H locs cells slots lr h1 h2 h3 h4 h5 h6 h7 h8)
theorem s_lload (C : zCx X D L xs PS mid N NS mc ms p R s m args meth c) {v : Nat} {x : Int64} (hd : decode (zby mid) pc = .ok (.lload v, 2)) (hx : zGet ls v = .long x) (k : zW p l e R s m args below meth c Q X D L xs mid N NS mc ms (pc + 2) ls (.long x :: st) σ) : zW p l e R s m args below meth c Q X D L xs mid N NS mc ms pc ls st σ := by
  intro H locs cells slots lr h1 h2 h3 h4 h5 h6 h7 h8
  exact lv_lload C.1 C.2.1 hd (h3.at hx rfl) (k H locs cells slots lr h1 h2 h3 h4 h5 h6 h7 h8)
theorem s_aload_n (C : zCx X D L xs PS mid N NS mc ms p R s m args meth c) {v : Fin 4} {a x : Nat} (hd : decode (zby mid) pc = .ok (.aload_n v, 1)) (hv : (v : Nat) = a) (hx : zGet ls a = .ref x) (k : zW p l e R s m args below meth c Q X D L xs mid N NS mc ms (pc + 1) ls (.ref x :: st) σ) : zW p l e R s m args below meth c Q X D L xs mid N NS mc ms pc ls st σ := by
  intro H locs cells slots lr h1 h2 h3 h4 h5 h6 h7 h8
  have h9 := h3.at hx rfl
  have k1 := k H locs cells slots lr h1 h2 h3 h4 h5 h6 h7 h8
  rw [List.map_cons] at k1
  rw [show zV X (.ref x) = va_rf (zEo X x) from rfl] at h9 k1
  cases hz : zEo X x with
  | none => rw [hz] at h9 k1; exact lv_aload_nN C.1 C.2.1 hd hv h9 k1
  | some q => rw [hz] at h9 k1; exact lv_aload_n C.1 C.2.1 hd hv h9 k1
theorem s_aload (C : zCx X D L xs PS mid N NS mc ms p R s m args meth c) {v x : Nat} (hd : decode (zby mid) pc = .ok (.aload v, 2)) (hx : zGet ls v = .ref x) (k : zW p l e R s m args below meth c Q X D L xs mid N NS mc ms (pc + 2) ls (.ref x :: st) σ) : zW p l e R s m args below meth c Q X D L xs mid N NS mc ms pc ls st σ := by
  intro H locs cells slots lr h1 h2 h3 h4 h5 h6 h7 h8
  have h9 := h3.at hx rfl
  have k1 := k H locs cells slots lr h1 h2 h3 h4 h5 h6 h7 h8
  rw [List.map_cons] at k1
  rw [show zV X (.ref x) = va_rf (zEo X x) from rfl] at h9 k1
  cases hz : zEo X x with
  | none => rw [hz] at h9 k1; exact lv_aloadN C.1 C.2.1 hd h9 k1
  | some q => rw [hz] at h9 k1; exact lv_aload C.1 C.2.1 hd h9 k1
theorem s_istore_n (C : zCx X D L xs PS mid N NS mc ms p R s m args meth c) {v : Fin 4} {a : Nat} {x : Int32} (hd : decode (zby mid) pc = .ok (.istore_n v, 1)) (hv : (v : Nat) = a) (ha : a < zmx mid) (k : zW p l e R s m args below meth c Q X D L xs mid N NS mc ms (pc + 1) (zSet ls a (.int x)) st σ) : zW p l e R s m args below meth c Q X D L xs mid N NS mc ms pc ls (.int x :: st) σ := by
  intro H locs cells slots lr h1 h2 h3 h4 h5 h6 h7 h8
  exact lv_istore_n C.1 C.2.1 hd hv h3 ha rfl (fun lr h3 => k H locs cells slots lr h1 h2 (zLv.set (v := .int x) h3) h4 h5 h6 h7 h8)
theorem s_astore_n (C : zCx X D L xs PS mid N NS mc ms p R s m args meth c) {v : Fin 4} {a : Nat} {x : Nat} (hd : decode (zby mid) pc = .ok (.astore_n v, 1)) (hv : (v : Nat) = a) (ha : a < zmx mid) (k : zW p l e R s m args below meth c Q X D L xs mid N NS mc ms (pc + 1) (zSet ls a (.ref x)) st σ) : zW p l e R s m args below meth c Q X D L xs mid N NS mc ms pc ls (.ref x :: st) σ := by
  intro H locs cells slots lr h1 h2 h3 h4 h5 h6 h7 h8
  rw [List.map_cons, show zV X (.ref x) = va_rf (zEo X x) from rfl]
  cases hz : zEo X x with
  | none => exact lv_astore_nN C.1 C.2.1 hd hv h3 ha rfl (fun lr h3 => k H locs cells slots lr h1 h2 (zLv.set (v := .ref x) (by rw [show zV X (.ref x) = .null by show va_rf (zEo X x) = _; rw [hz]; rfl]; exact h3)) h4 h5 h6 h7 h8)
  | some q => exact lv_astore_n C.1 C.2.1 hd hv h3 ha rfl (fun lr h3 => k H locs cells slots lr h1 h2 (zLv.set (v := .ref x) (by rw [show zV X (.ref x) = .ref q by show va_rf (zEo X x) = _; rw [hz]; rfl]; exact h3)) h4 h5 h6 h7 h8)
theorem s_lstore_n (C : zCx X D L xs PS mid N NS mc ms p R s m args meth c) {v : Fin 4} {a : Nat} {x : Int64} (hd : decode (zby mid) pc = .ok (.lstore_n v, 1)) (hv : (v : Nat) = a) (ha : a + 1 < zmx mid) (k : zW p l e R s m args below meth c Q X D L xs mid N NS mc ms (pc + 1) (zSet2 ls a (.long x)) st σ) : zW p l e R s m args below meth c Q X D L xs mid N NS mc ms pc ls (.long x :: st) σ := by
  intro H locs cells slots lr h1 h2 h3 h4 h5 h6 h7 h8
  exact lv_lstore_n C.1 C.2.1 hd hv h3 ha rfl (fun lr h3 => k H locs cells slots lr h1 h2 (zLv.set2 (v := .long x) h3) h4 h5 h6 h7 h8)
theorem s_istore (C : zCx X D L xs PS mid N NS mc ms p R s m args meth c) {a : Nat} {x : Int32} (hd : decode (zby mid) pc = .ok (.istore a, 2)) (ha : a < zmx mid) (k : zW p l e R s m args below meth c Q X D L xs mid N NS mc ms (pc + 2) (zSet ls a (.int x)) st σ) : zW p l e R s m args below meth c Q X D L xs mid N NS mc ms pc ls (.int x :: st) σ := by
  intro H locs cells slots lr h1 h2 h3 h4 h5 h6 h7 h8
  exact lv_istore C.1 C.2.1 hd h3 ha rfl (fun lr h3 => k H locs cells slots lr h1 h2 (zLv.set (v := .int x) h3) h4 h5 h6 h7 h8)
theorem s_astore (C : zCx X D L xs PS mid N NS mc ms p R s m args meth c) {a : Nat} {x : Nat} (hd : decode (zby mid) pc = .ok (.astore a, 2)) (ha : a < zmx mid) (k : zW p l e R s m args below meth c Q X D L xs mid N NS mc ms (pc + 2) (zSet ls a (.ref x)) st σ) : zW p l e R s m args below meth c Q X D L xs mid N NS mc ms pc ls (.ref x :: st) σ := by
  intro H locs cells slots lr h1 h2 h3 h4 h5 h6 h7 h8
  rw [List.map_cons, show zV X (.ref x) = va_rf (zEo X x) from rfl]
  cases hz : zEo X x with
  | none => exact lv_astoreN C.1 C.2.1 hd h3 ha rfl (fun lr h3 => k H locs cells slots lr h1 h2 (zLv.set (v := .ref x) (by rw [show zV X (.ref x) = .null by show va_rf (zEo X x) = _; rw [hz]; rfl]; exact h3)) h4 h5 h6 h7 h8)
  | some q => exact lv_astore C.1 C.2.1 hd h3 ha rfl (fun lr h3 => k H locs cells slots lr h1 h2 (zLv.set (v := .ref x) (by rw [show zV X (.ref x) = .ref q by show va_rf (zEo X x) = _; rw [hz]; rfl]; exact h3)) h4 h5 h6 h7 h8)
theorem s_lstore (C : zCx X D L xs PS mid N NS mc ms p R s m args meth c) {a : Nat} {x : Int64} (hd : decode (zby mid) pc = .ok (.lstore a, 2)) (ha : a + 1 < zmx mid) (k : zW p l e R s m args below meth c Q X D L xs mid N NS mc ms (pc + 2) (zSet2 ls a (.long x)) st σ) : zW p l e R s m args below meth c Q X D L xs mid N NS mc ms pc ls (.long x :: st) σ := by
  intro H locs cells slots lr h1 h2 h3 h4 h5 h6 h7 h8
  exact lv_lstore C.1 C.2.1 hd h3 ha rfl (fun lr h3 => k H locs cells slots lr h1 h2 (zLv.set2 (v := .long x) h3) h4 h5 h6 h7 h8)
theorem s_iinc (C : zCx X D L xs PS mid N NS mc ms p R s m args meth c) {a : Nat} {n : Int} {x w : Int32} (hd : decode (zby mid) pc = .ok (.iinc a n, 3)) (hx : zGet ls a = .int x) (hw : Int32.ofInt n = w) (ha : a < zmx mid) (k : zW p l e R s m args below meth c Q X D L xs mid N NS mc ms (pc + 3) (zSet ls a (.int (x + w))) st σ) : zW p l e R s m args below meth c Q X D L xs mid N NS mc ms pc ls st σ := by
  intro H locs cells slots lr h1 h2 h3 h4 h5 h6 h7 h8
  obtain ⟨j, hj⟩ := List.getElem?_of_mem ((zlp_iff (X := X) ls 0 (0 + a, .int x)).mpr ⟨a, .int x, rfl, hx, rfl⟩)
  rw [Nat.zero_add] at hj
  exact lv_iinc C.1 C.2.1 hd h3 hj (by rw [hw]) ha rfl (fun lr h3 => k H locs cells slots lr h1 h2 (zLv.set (v := .int (x + w)) h3) h4 h5 h6 h7 h8)
theorem s_iadd (C : zCx X D L xs PS mid N NS mc ms p R s m args meth c) {x y : Int32} (hd : decode (zby mid) pc = .ok (.iadd, 1))  (k : zW p l e R s m args below meth c Q X D L xs mid N NS mc ms (pc + 1) ls (.int (x + y) :: st) σ) : zW p l e R s m args below meth c Q X D L xs mid N NS mc ms pc ls (.int y :: .int x :: st) σ := by
  intro H locs cells slots lr h1 h2 h3 h4 h5 h6 h7 h8
  exact lv_iadd C.1 C.2.1 hd (k H locs cells slots lr h1 h2 h3 h4 h5 h6 h7 h8)
theorem s_isub (C : zCx X D L xs PS mid N NS mc ms p R s m args meth c) {x y : Int32} (hd : decode (zby mid) pc = .ok (.isub, 1))  (k : zW p l e R s m args below meth c Q X D L xs mid N NS mc ms (pc + 1) ls (.int (x - y) :: st) σ) : zW p l e R s m args below meth c Q X D L xs mid N NS mc ms pc ls (.int y :: .int x :: st) σ := by
  intro H locs cells slots lr h1 h2 h3 h4 h5 h6 h7 h8
  exact lv_isub C.1 C.2.1 hd (k H locs cells slots lr h1 h2 h3 h4 h5 h6 h7 h8)
theorem s_imul (C : zCx X D L xs PS mid N NS mc ms p R s m args meth c) {x y : Int32} (hd : decode (zby mid) pc = .ok (.imul, 1))  (k : zW p l e R s m args below meth c Q X D L xs mid N NS mc ms (pc + 1) ls (.int (x * y) :: st) σ) : zW p l e R s m args below meth c Q X D L xs mid N NS mc ms pc ls (.int y :: .int x :: st) σ := by
  intro H locs cells slots lr h1 h2 h3 h4 h5 h6 h7 h8
  exact lv_imul C.1 C.2.1 hd (k H locs cells slots lr h1 h2 h3 h4 h5 h6 h7 h8)
theorem s_iand (C : zCx X D L xs PS mid N NS mc ms p R s m args meth c) {x y : Int32} (hd : decode (zby mid) pc = .ok (.iand, 1))  (k : zW p l e R s m args below meth c Q X D L xs mid N NS mc ms (pc + 1) ls (.int (x &&& y) :: st) σ) : zW p l e R s m args below meth c Q X D L xs mid N NS mc ms pc ls (.int y :: .int x :: st) σ := by
  intro H locs cells slots lr h1 h2 h3 h4 h5 h6 h7 h8
  exact lv_iand C.1 C.2.1 hd (k H locs cells slots lr h1 h2 h3 h4 h5 h6 h7 h8)
theorem s_ior (C : zCx X D L xs PS mid N NS mc ms p R s m args meth c) {x y : Int32} (hd : decode (zby mid) pc = .ok (.ior, 1))  (k : zW p l e R s m args below meth c Q X D L xs mid N NS mc ms (pc + 1) ls (.int (x ||| y) :: st) σ) : zW p l e R s m args below meth c Q X D L xs mid N NS mc ms pc ls (.int y :: .int x :: st) σ := by
  intro H locs cells slots lr h1 h2 h3 h4 h5 h6 h7 h8
  exact lv_ior C.1 C.2.1 hd (k H locs cells slots lr h1 h2 h3 h4 h5 h6 h7 h8)
theorem s_ixor (C : zCx X D L xs PS mid N NS mc ms p R s m args meth c) {x y : Int32} (hd : decode (zby mid) pc = .ok (.ixor, 1))  (k : zW p l e R s m args below meth c Q X D L xs mid N NS mc ms (pc + 1) ls (.int (x ^^^ y) :: st) σ) : zW p l e R s m args below meth c Q X D L xs mid N NS mc ms pc ls (.int y :: .int x :: st) σ := by
  intro H locs cells slots lr h1 h2 h3 h4 h5 h6 h7 h8
  exact lv_ixor C.1 C.2.1 hd (k H locs cells slots lr h1 h2 h3 h4 h5 h6 h7 h8)
theorem s_ishl (C : zCx X D L xs PS mid N NS mc ms p R s m args meth c) {x y : Int32} (hd : decode (zby mid) pc = .ok (.ishl, 1))  (k : zW p l e R s m args below meth c Q X D L xs mid N NS mc ms (pc + 1) ls (.int (x <<< (y &&& 31)) :: st) σ) : zW p l e R s m args below meth c Q X D L xs mid N NS mc ms pc ls (.int y :: .int x :: st) σ := by
  intro H locs cells slots lr h1 h2 h3 h4 h5 h6 h7 h8
  exact lv_ishl C.1 C.2.1 hd (k H locs cells slots lr h1 h2 h3 h4 h5 h6 h7 h8)
theorem s_ishr (C : zCx X D L xs PS mid N NS mc ms p R s m args meth c) {x y : Int32} (hd : decode (zby mid) pc = .ok (.ishr, 1))  (k : zW p l e R s m args below meth c Q X D L xs mid N NS mc ms (pc + 1) ls (.int (x >>> (y &&& 31)) :: st) σ) : zW p l e R s m args below meth c Q X D L xs mid N NS mc ms pc ls (.int y :: .int x :: st) σ := by
  intro H locs cells slots lr h1 h2 h3 h4 h5 h6 h7 h8
  exact lv_ishr C.1 C.2.1 hd (k H locs cells slots lr h1 h2 h3 h4 h5 h6 h7 h8)
theorem s_iushr (C : zCx X D L xs PS mid N NS mc ms p R s m args meth c) {x y : Int32} (hd : decode (zby mid) pc = .ok (.iushr, 1))  (k : zW p l e R s m args below meth c Q X D L xs mid N NS mc ms (pc + 1) ls (.int ((x.toUInt32 >>> (y.toUInt32 &&& Int32.toUInt32 31)).toInt32) :: st) σ) : zW p l e R s m args below meth c Q X D L xs mid N NS mc ms pc ls (.int y :: .int x :: st) σ := by
  intro H locs cells slots lr h1 h2 h3 h4 h5 h6 h7 h8
  exact lv_iushr C.1 C.2.1 hd rfl (k H locs cells slots lr h1 h2 h3 h4 h5 h6 h7 h8)
theorem s_idiv (C : zCx X D L xs PS mid N NS mc ms p R s m args meth c) {x y : Int32} (hd : decode (zby mid) pc = .ok (.idiv, 1)) (hy : ¬ y = 0) (k : zW p l e R s m args below meth c Q X D L xs mid N NS mc ms (pc + 1) ls (.int (x / y) :: st) σ) : zW p l e R s m args below meth c Q X D L xs mid N NS mc ms pc ls (.int y :: .int x :: st) σ := by
  intro H locs cells slots lr h1 h2 h3 h4 h5 h6 h7 h8
  exact lv_idiv C.1 C.2.1 hd hy (k H locs cells slots lr h1 h2 h3 h4 h5 h6 h7 h8)
theorem s_irem (C : zCx X D L xs PS mid N NS mc ms p R s m args meth c) {x y : Int32} (hd : decode (zby mid) pc = .ok (.irem, 1)) (hy : ¬ y = 0) (k : zW p l e R s m args below meth c Q X D L xs mid N NS mc ms (pc + 1) ls (.int (x - x / y * y) :: st) σ) : zW p l e R s m args below meth c Q X D L xs mid N NS mc ms pc ls (.int y :: .int x :: st) σ := by
  intro H locs cells slots lr h1 h2 h3 h4 h5 h6 h7 h8
  exact lv_irem C.1 C.2.1 hd hy (k H locs cells slots lr h1 h2 h3 h4 h5 h6 h7 h8)
theorem s_ladd (C : zCx X D L xs PS mid N NS mc ms p R s m args meth c) {x y : Int64} (hd : decode (zby mid) pc = .ok (.ladd, 1))  (k : zW p l e R s m args below meth c Q X D L xs mid N NS mc ms (pc + 1) ls (.long (x + y) :: st) σ) : zW p l e R s m args below meth c Q X D L xs mid N NS mc ms pc ls (.long y :: .long x :: st) σ := by
  intro H locs cells slots lr h1 h2 h3 h4 h5 h6 h7 h8
  exact lv_ladd C.1 C.2.1 hd (k H locs cells slots lr h1 h2 h3 h4 h5 h6 h7 h8)
theorem s_lsub (C : zCx X D L xs PS mid N NS mc ms p R s m args meth c) {x y : Int64} (hd : decode (zby mid) pc = .ok (.lsub, 1))  (k : zW p l e R s m args below meth c Q X D L xs mid N NS mc ms (pc + 1) ls (.long (x - y) :: st) σ) : zW p l e R s m args below meth c Q X D L xs mid N NS mc ms pc ls (.long y :: .long x :: st) σ := by
  intro H locs cells slots lr h1 h2 h3 h4 h5 h6 h7 h8
  exact lv_lsub C.1 C.2.1 hd (k H locs cells slots lr h1 h2 h3 h4 h5 h6 h7 h8)
theorem s_lmul (C : zCx X D L xs PS mid N NS mc ms p R s m args meth c) {x y : Int64} (hd : decode (zby mid) pc = .ok (.lmul, 1))  (k : zW p l e R s m args below meth c Q X D L xs mid N NS mc ms (pc + 1) ls (.long (x * y) :: st) σ) : zW p l e R s m args below meth c Q X D L xs mid N NS mc ms pc ls (.long y :: .long x :: st) σ := by
  intro H locs cells slots lr h1 h2 h3 h4 h5 h6 h7 h8
  exact lv_lmul C.1 C.2.1 hd (k H locs cells slots lr h1 h2 h3 h4 h5 h6 h7 h8)
theorem s_land (C : zCx X D L xs PS mid N NS mc ms p R s m args meth c) {x y : Int64} (hd : decode (zby mid) pc = .ok (.land, 1))  (k : zW p l e R s m args below meth c Q X D L xs mid N NS mc ms (pc + 1) ls (.long (x &&& y) :: st) σ) : zW p l e R s m args below meth c Q X D L xs mid N NS mc ms pc ls (.long y :: .long x :: st) σ := by
  intro H locs cells slots lr h1 h2 h3 h4 h5 h6 h7 h8
  exact lv_land C.1 C.2.1 hd (k H locs cells slots lr h1 h2 h3 h4 h5 h6 h7 h8)
theorem s_lor (C : zCx X D L xs PS mid N NS mc ms p R s m args meth c) {x y : Int64} (hd : decode (zby mid) pc = .ok (.lor, 1))  (k : zW p l e R s m args below meth c Q X D L xs mid N NS mc ms (pc + 1) ls (.long (x ||| y) :: st) σ) : zW p l e R s m args below meth c Q X D L xs mid N NS mc ms pc ls (.long y :: .long x :: st) σ := by
  intro H locs cells slots lr h1 h2 h3 h4 h5 h6 h7 h8
  exact lv_lor C.1 C.2.1 hd (k H locs cells slots lr h1 h2 h3 h4 h5 h6 h7 h8)
theorem s_ldiv (C : zCx X D L xs PS mid N NS mc ms p R s m args meth c) {x y : Int64} (hd : decode (zby mid) pc = .ok (.ldiv, 1)) (hy : ¬ y = 0) (k : zW p l e R s m args below meth c Q X D L xs mid N NS mc ms (pc + 1) ls (.long (x / y) :: st) σ) : zW p l e R s m args below meth c Q X D L xs mid N NS mc ms pc ls (.long y :: .long x :: st) σ := by
  intro H locs cells slots lr h1 h2 h3 h4 h5 h6 h7 h8
  exact lv_ldiv C.1 C.2.1 hd hy (k H locs cells slots lr h1 h2 h3 h4 h5 h6 h7 h8)
theorem s_lrem (C : zCx X D L xs PS mid N NS mc ms p R s m args meth c) {x y : Int64} (hd : decode (zby mid) pc = .ok (.lrem, 1)) (hy : ¬ y = 0) (k : zW p l e R s m args below meth c Q X D L xs mid N NS mc ms (pc + 1) ls (.long (x - x / y * y) :: st) σ) : zW p l e R s m args below meth c Q X D L xs mid N NS mc ms pc ls (.long y :: .long x :: st) σ := by
  intro H locs cells slots lr h1 h2 h3 h4 h5 h6 h7 h8
  exact lv_lrem C.1 C.2.1 hd hy (k H locs cells slots lr h1 h2 h3 h4 h5 h6 h7 h8)
theorem s_lshl (C : zCx X D L xs PS mid N NS mc ms p R s m args meth c) {x : Int64} {y : Int32} (hd : decode (zby mid) pc = .ok (.lshl, 1))  (k : zW p l e R s m args below meth c Q X D L xs mid N NS mc ms (pc + 1) ls (.long (x <<< (y.toInt64 &&& 63)) :: st) σ) : zW p l e R s m args below meth c Q X D L xs mid N NS mc ms pc ls (.int y :: .long x :: st) σ := by
  intro H locs cells slots lr h1 h2 h3 h4 h5 h6 h7 h8
  exact lv_lshl C.1 C.2.1 hd rfl (k H locs cells slots lr h1 h2 h3 h4 h5 h6 h7 h8)
theorem s_lcmp (C : zCx X D L xs PS mid N NS mc ms p R s m args meth c) {x y : Int64} (hd : decode (zby mid) pc = .ok (.lcmp, 1))  (k : zW p l e R s m args below meth c Q X D L xs mid N NS mc ms (pc + 1) ls (.int (lg_cmp x y) :: st) σ) : zW p l e R s m args below meth c Q X D L xs mid N NS mc ms pc ls (.long y :: .long x :: st) σ := by
  intro H locs cells slots lr h1 h2 h3 h4 h5 h6 h7 h8
  exact W.lcmp C.1 C.2.1 hd (k H locs cells slots lr h1 h2 h3 h4 h5 h6 h7 h8)
theorem s_i2l (C : zCx X D L xs PS mid N NS mc ms p R s m args meth c) {x : Int32} (hd : decode (zby mid) pc = .ok (.i2l, 1))  (k : zW p l e R s m args below meth c Q X D L xs mid N NS mc ms (pc + 1) ls (.long x.toInt64 :: st) σ) : zW p l e R s m args below meth c Q X D L xs mid N NS mc ms pc ls (.int x :: st) σ := by
  intro H locs cells slots lr h1 h2 h3 h4 h5 h6 h7 h8
  exact lv_i2l C.1 C.2.1 hd rfl (k H locs cells slots lr h1 h2 h3 h4 h5 h6 h7 h8)
theorem s_l2i (C : zCx X D L xs PS mid N NS mc ms p R s m args meth c) {x : Int64} (hd : decode (zby mid) pc = .ok (.l2i, 1))  (k : zW p l e R s m args below meth c Q X D L xs mid N NS mc ms (pc + 1) ls (.int x.toInt32 :: st) σ) : zW p l e R s m args below meth c Q X D L xs mid N NS mc ms pc ls (.long x :: st) σ := by
  intro H locs cells slots lr h1 h2 h3 h4 h5 h6 h7 h8
  exact lv_l2i C.1 C.2.1 hd rfl (k H locs cells slots lr h1 h2 h3 h4 h5 h6 h7 h8)
theorem s_i2b (C : zCx X D L xs PS mid N NS mc ms p R s m args meth c) {x : Int32} (hd : decode (zby mid) pc = .ok (.i2b, 1))  (k : zW p l e R s m args below meth c Q X D L xs mid N NS mc ms (pc + 1) ls (.int x.toInt8.toInt32 :: st) σ) : zW p l e R s m args below meth c Q X D L xs mid N NS mc ms pc ls (.int x :: st) σ := by
  intro H locs cells slots lr h1 h2 h3 h4 h5 h6 h7 h8
  exact lv_i2b C.1 C.2.1 hd rfl (k H locs cells slots lr h1 h2 h3 h4 h5 h6 h7 h8)
theorem s_i2s (C : zCx X D L xs PS mid N NS mc ms p R s m args meth c) {x : Int32} (hd : decode (zby mid) pc = .ok (.i2s, 1))  (k : zW p l e R s m args below meth c Q X D L xs mid N NS mc ms (pc + 1) ls (.int x.toInt16.toInt32 :: st) σ) : zW p l e R s m args below meth c Q X D L xs mid N NS mc ms pc ls (.int x :: st) σ := by
  intro H locs cells slots lr h1 h2 h3 h4 h5 h6 h7 h8
  exact lv_i2s C.1 C.2.1 hd rfl (k H locs cells slots lr h1 h2 h3 h4 h5 h6 h7 h8)
theorem s_dup (C : zCx X D L xs PS mid N NS mc ms p R s m args meth c) {v : Value} (hv : v.category = 1) (hd : decode (zby mid) pc = .ok (.dup, 1)) (k : zW p l e R s m args below meth c Q X D L xs mid N NS mc ms (pc + 1) ls (v :: v :: st) σ) : zW p l e R s m args below meth c Q X D L xs mid N NS mc ms pc ls (v :: st) σ := by
  intro H locs cells slots lr h1 h2 h3 h4 h5 h6 h7 h8
  rw [List.all_cons, Bool.and_eq_true] at h8
  exact lv_dup C.1 C.2.1 hd (zV_cat.trans hv) (k H locs cells slots lr h1 h2 h3 h4 h5 h6 h7 (by rw [List.all_cons, List.all_cons, h8.1, h8.2]; rfl))
theorem s_pop (C : zCx X D L xs PS mid N NS mc ms p R s m args meth c) {v : Value} (hv : v.category = 1) (hd : decode (zby mid) pc = .ok (.pop, 1)) (k : zW p l e R s m args below meth c Q X D L xs mid N NS mc ms (pc + 1) ls st σ) : zW p l e R s m args below meth c Q X D L xs mid N NS mc ms pc ls (v :: st) σ := by
  intro H locs cells slots lr h1 h2 h3 h4 h5 h6 h7 h8
  rw [List.all_cons, Bool.and_eq_true] at h8
  exact lv_pop C.1 C.2.1 hd (zV_cat.trans hv) (k H locs cells slots lr h1 h2 h3 h4 h5 h6 h7 h8.2)
theorem s_dup2 (C : zCx X D L xs PS mid N NS mc ms p R s m args meth c) {v w : Value} (hv : v.category = 1) (hw : w.category = 1) (hd : decode (zby mid) pc = .ok (.dup2, 1)) (k : zW p l e R s m args below meth c Q X D L xs mid N NS mc ms (pc + 1) ls (v :: w :: v :: w :: st) σ) : zW p l e R s m args below meth c Q X D L xs mid N NS mc ms pc ls (v :: w :: st) σ := by
  intro H locs cells slots lr h1 h2 h3 h4 h5 h6 h7 h8
  rw [List.all_cons, Bool.and_eq_true, List.all_cons, Bool.and_eq_true] at h8
  exact lv_dup2_11 C.1 C.2.1 hd (zV_cat.trans hv) (zV_cat.trans hw) (k H locs cells slots lr h1 h2 h3 h4 h5 h6 h7 (by rw [List.all_cons, List.all_cons, List.all_cons, List.all_cons, h8.1, h8.2.1, h8.2.2]; rfl))
theorem s_goto (C : zCx X D L xs PS mid N NS mc ms p R s m args meth c) {v : Int} {a : Nat} (hd : decode (zby mid) pc = .ok (.goto v, 3)) (ha : (pc : Int) + v = (a : Int)) (k : zW p l e R s m args below meth c Q X D L xs mid N NS mc ms a ls st σ) : zW p l e R s m args below meth c Q X D L xs mid N NS mc ms pc ls st σ := by
  intro H locs cells slots lr h1 h2 h3 h4 h5 h6 h7 h8
  exact lv_goto C.1 C.2.1 hd ha (k H locs cells slots lr h1 h2 h3 h4 h5 h6 h7 h8)
theorem s_if_icmp_eq (C : zCx X D L xs PS mid N NS mc ms p R s m args meth c) {x y : Int32} {v : Int} {a : Nat} (hd : decode (zby mid) pc = .ok (.if_icmp .eq v, 3)) (ha : (pc : Int) + v = (a : Int)) (k1 : x = y → zW p l e R s m args below meth c Q X D L xs mid N NS mc ms a ls st σ) (k2 : ¬ x = y → zW p l e R s m args below meth c Q X D L xs mid N NS mc ms (pc + 3) ls st σ) : zW p l e R s m args below meth c Q X D L xs mid N NS mc ms pc ls (.int y :: .int x :: st) σ := by
  intro H locs cells slots lr h1 h2 h3 h4 h5 h6 h7 h8
  refine lv_icmp_eq C.1 C.2.1 hd ha (fun hh => ?_) (fun hh => ?_)
  · exact k1 (by first | exact hh | simpa [nI_0] using hh | (simp only [Int32.not_lt, nI_0] at hh ⊢; exact hh)) H locs cells slots lr h1 h2 h3 h4 h5 h6 h7 h8
  · exact k2 (by first | exact hh | simpa [nI_0] using hh | (simp only [Int32.not_lt, nI_0] at hh ⊢; exact hh)) H locs cells slots lr h1 h2 h3 h4 h5 h6 h7 h8
theorem s_ifCond_eq (C : zCx X D L xs PS mid N NS mc ms p R s m args meth c) {x : Int32} {v : Int} {a : Nat} (hd : decode (zby mid) pc = .ok (.ifCond .eq v, 3)) (ha : (pc : Int) + v = (a : Int)) (k1 : x = nI 0 → zW p l e R s m args below meth c Q X D L xs mid N NS mc ms a ls st σ) (k2 : ¬ x = nI 0 → zW p l e R s m args below meth c Q X D L xs mid N NS mc ms (pc + 3) ls st σ) : zW p l e R s m args below meth c Q X D L xs mid N NS mc ms pc ls (.int x :: st) σ := by
  intro H locs cells slots lr h1 h2 h3 h4 h5 h6 h7 h8
  refine lv_if_eq C.1 C.2.1 hd ha (fun hh => ?_) (fun hh => ?_)
  · exact k1 (by first | exact hh | simpa [nI_0] using hh | (simp only [Int32.not_lt, nI_0] at hh ⊢; exact hh)) H locs cells slots lr h1 h2 h3 h4 h5 h6 h7 h8
  · exact k2 (by first | exact hh | simpa [nI_0] using hh | (simp only [Int32.not_lt, nI_0] at hh ⊢; exact hh)) H locs cells slots lr h1 h2 h3 h4 h5 h6 h7 h8
theorem s_if_icmp_ne (C : zCx X D L xs PS mid N NS mc ms p R s m args meth c) {x y : Int32} {v : Int} {a : Nat} (hd : decode (zby mid) pc = .ok (.if_icmp .ne v, 3)) (ha : (pc : Int) + v = (a : Int)) (k1 : ¬ x = y → zW p l e R s m args below meth c Q X D L xs mid N NS mc ms a ls st σ) (k2 : x = y → zW p l e R s m args below meth c Q X D L xs mid N NS mc ms (pc + 3) ls st σ) : zW p l e R s m args below meth c Q X D L xs mid N NS mc ms pc ls (.int y :: .int x :: st) σ := by
  intro H locs cells slots lr h1 h2 h3 h4 h5 h6 h7 h8
  refine lv_icmp_ne C.1 C.2.1 hd ha (fun hh => ?_) (fun hh => ?_)
  · exact k1 (by first | exact hh | simpa [nI_0] using hh | (simp only [Int32.not_lt, nI_0] at hh ⊢; exact hh)) H locs cells slots lr h1 h2 h3 h4 h5 h6 h7 h8
  · exact k2 (by first | exact hh | simpa [nI_0] using hh | (simp only [Int32.not_lt, nI_0] at hh ⊢; exact hh)) H locs cells slots lr h1 h2 h3 h4 h5 h6 h7 h8
theorem s_ifCond_ne (C : zCx X D L xs PS mid N NS mc ms p R s m args meth c) {x : Int32} {v : Int} {a : Nat} (hd : decode (zby mid) pc = .ok (.ifCond .ne v, 3)) (ha : (pc : Int) + v = (a : Int)) (k1 : ¬ x = nI 0 → zW p l e R s m args below meth c Q X D L xs mid N NS mc ms a ls st σ) (k2 : x = nI 0 → zW p l e R s m args below meth c Q X D L xs mid N NS mc ms (pc + 3) ls st σ) : zW p l e R s m args below meth c Q X D L xs mid N NS mc ms pc ls (.int x :: st) σ := by
  intro H locs cells slots lr h1 h2 h3 h4 h5 h6 h7 h8
  refine lv_if_ne C.1 C.2.1 hd ha (fun hh => ?_) (fun hh => ?_)
  · exact k1 (by first | exact hh | simpa [nI_0] using hh | (simp only [Int32.not_lt, nI_0] at hh ⊢; exact hh)) H locs cells slots lr h1 h2 h3 h4 h5 h6 h7 h8
  · exact k2 (by first | exact hh | simpa [nI_0] using hh | (simp only [Int32.not_lt, nI_0] at hh ⊢; exact hh)) H locs cells slots lr h1 h2 h3 h4 h5 h6 h7 h8
theorem s_if_icmp_lt (C : zCx X D L xs PS mid N NS mc ms p R s m args meth c) {x y : Int32} {v : Int} {a : Nat} (hd : decode (zby mid) pc = .ok (.if_icmp .lt v, 3)) (ha : (pc : Int) + v = (a : Int)) (k1 : x < y → zW p l e R s m args below meth c Q X D L xs mid N NS mc ms a ls st σ) (k2 : ¬ x < y → zW p l e R s m args below meth c Q X D L xs mid N NS mc ms (pc + 3) ls st σ) : zW p l e R s m args below meth c Q X D L xs mid N NS mc ms pc ls (.int y :: .int x :: st) σ := by
  intro H locs cells slots lr h1 h2 h3 h4 h5 h6 h7 h8
  refine lv_icmp_lt C.1 C.2.1 hd ha (fun hh => ?_) (fun hh => ?_)
  · exact k1 (by first | exact hh | simpa [nI_0] using hh | (simp only [Int32.not_lt, nI_0] at hh ⊢; exact hh)) H locs cells slots lr h1 h2 h3 h4 h5 h6 h7 h8
  · exact k2 (by first | exact hh | simpa [nI_0] using hh | (simp only [Int32.not_lt, nI_0] at hh ⊢; exact hh)) H locs cells slots lr h1 h2 h3 h4 h5 h6 h7 h8
theorem s_ifCond_lt (C : zCx X D L xs PS mid N NS mc ms p R s m args meth c) {x : Int32} {v : Int} {a : Nat} (hd : decode (zby mid) pc = .ok (.ifCond .lt v, 3)) (ha : (pc : Int) + v = (a : Int)) (k1 : x < nI 0 → zW p l e R s m args below meth c Q X D L xs mid N NS mc ms a ls st σ) (k2 : ¬ x < nI 0 → zW p l e R s m args below meth c Q X D L xs mid N NS mc ms (pc + 3) ls st σ) : zW p l e R s m args below meth c Q X D L xs mid N NS mc ms pc ls (.int x :: st) σ := by
  intro H locs cells slots lr h1 h2 h3 h4 h5 h6 h7 h8
  refine lv_if_lt C.1 C.2.1 hd ha (fun hh => ?_) (fun hh => ?_)
  · exact k1 (by first | exact hh | simpa [nI_0] using hh | (simp only [Int32.not_lt, nI_0] at hh ⊢; exact hh)) H locs cells slots lr h1 h2 h3 h4 h5 h6 h7 h8
  · exact k2 (by first | exact hh | simpa [nI_0] using hh | (simp only [Int32.not_lt, nI_0] at hh ⊢; exact hh)) H locs cells slots lr h1 h2 h3 h4 h5 h6 h7 h8
theorem s_if_icmp_ge (C : zCx X D L xs PS mid N NS mc ms p R s m args meth c) {x y : Int32} {v : Int} {a : Nat} (hd : decode (zby mid) pc = .ok (.if_icmp .ge v, 3)) (ha : (pc : Int) + v = (a : Int)) (k1 : ¬ x < y → zW p l e R s m args below meth c Q X D L xs mid N NS mc ms a ls st σ) (k2 : x < y → zW p l e R s m args below meth c Q X D L xs mid N NS mc ms (pc + 3) ls st σ) : zW p l e R s m args below meth c Q X D L xs mid N NS mc ms pc ls (.int y :: .int x :: st) σ := by
  intro H locs cells slots lr h1 h2 h3 h4 h5 h6 h7 h8
  refine lv_icmp_ge C.1 C.2.1 hd ha (fun hh => ?_) (fun hh => ?_)
  · exact k1 (by first | exact hh | simpa [nI_0] using hh | (simp only [Int32.not_lt, nI_0] at hh ⊢; exact hh)) H locs cells slots lr h1 h2 h3 h4 h5 h6 h7 h8
  · exact k2 (by first | exact hh | simpa [nI_0] using hh | (simp only [Int32.not_lt, nI_0] at hh ⊢; exact hh)) H locs cells slots lr h1 h2 h3 h4 h5 h6 h7 h8
theorem s_ifCond_ge (C : zCx X D L xs PS mid N NS mc ms p R s m args meth c) {x : Int32} {v : Int} {a : Nat} (hd : decode (zby mid) pc = .ok (.ifCond .ge v, 3)) (ha : (pc : Int) + v = (a : Int)) (k1 : ¬ x < nI 0 → zW p l e R s m args below meth c Q X D L xs mid N NS mc ms a ls st σ) (k2 : x < nI 0 → zW p l e R s m args below meth c Q X D L xs mid N NS mc ms (pc + 3) ls st σ) : zW p l e R s m args below meth c Q X D L xs mid N NS mc ms pc ls (.int x :: st) σ := by
  intro H locs cells slots lr h1 h2 h3 h4 h5 h6 h7 h8
  refine lv_if_ge C.1 C.2.1 hd ha (fun hh => ?_) (fun hh => ?_)
  · exact k1 (by first | exact hh | simpa [nI_0] using hh | (simp only [Int32.not_lt, nI_0] at hh ⊢; exact hh)) H locs cells slots lr h1 h2 h3 h4 h5 h6 h7 h8
  · exact k2 (by first | exact hh | simpa [nI_0] using hh | (simp only [Int32.not_lt, nI_0] at hh ⊢; exact hh)) H locs cells slots lr h1 h2 h3 h4 h5 h6 h7 h8
theorem s_if_icmp_gt (C : zCx X D L xs PS mid N NS mc ms p R s m args meth c) {x y : Int32} {v : Int} {a : Nat} (hd : decode (zby mid) pc = .ok (.if_icmp .gt v, 3)) (ha : (pc : Int) + v = (a : Int)) (k1 : y < x → zW p l e R s m args below meth c Q X D L xs mid N NS mc ms a ls st σ) (k2 : ¬ y < x → zW p l e R s m args below meth c Q X D L xs mid N NS mc ms (pc + 3) ls st σ) : zW p l e R s m args below meth c Q X D L xs mid N NS mc ms pc ls (.int y :: .int x :: st) σ := by
  intro H locs cells slots lr h1 h2 h3 h4 h5 h6 h7 h8
  refine lv_icmp_gt C.1 C.2.1 hd ha (fun hh => ?_) (fun hh => ?_)
  · exact k1 (by first | exact hh | simpa [nI_0] using hh | (simp only [Int32.not_lt, nI_0] at hh ⊢; exact hh)) H locs cells slots lr h1 h2 h3 h4 h5 h6 h7 h8
  · exact k2 (by first | exact hh | simpa [nI_0] using hh | (simp only [Int32.not_lt, nI_0] at hh ⊢; exact hh)) H locs cells slots lr h1 h2 h3 h4 h5 h6 h7 h8
theorem s_ifCond_gt (C : zCx X D L xs PS mid N NS mc ms p R s m args meth c) {x : Int32} {v : Int} {a : Nat} (hd : decode (zby mid) pc = .ok (.ifCond .gt v, 3)) (ha : (pc : Int) + v = (a : Int)) (k1 : nI 0 < x → zW p l e R s m args below meth c Q X D L xs mid N NS mc ms a ls st σ) (k2 : ¬ nI 0 < x → zW p l e R s m args below meth c Q X D L xs mid N NS mc ms (pc + 3) ls st σ) : zW p l e R s m args below meth c Q X D L xs mid N NS mc ms pc ls (.int x :: st) σ := by
  intro H locs cells slots lr h1 h2 h3 h4 h5 h6 h7 h8
  refine lv_if_gt C.1 C.2.1 hd ha (fun hh => ?_) (fun hh => ?_)
  · exact k1 (by first | exact hh | simpa [nI_0] using hh | (simp only [Int32.not_lt, nI_0] at hh ⊢; exact hh)) H locs cells slots lr h1 h2 h3 h4 h5 h6 h7 h8
  · exact k2 (by first | exact hh | simpa [nI_0] using hh | (simp only [Int32.not_lt, nI_0] at hh ⊢; exact hh)) H locs cells slots lr h1 h2 h3 h4 h5 h6 h7 h8
theorem s_if_icmp_le (C : zCx X D L xs PS mid N NS mc ms p R s m args meth c) {x y : Int32} {v : Int} {a : Nat} (hd : decode (zby mid) pc = .ok (.if_icmp .le v, 3)) (ha : (pc : Int) + v = (a : Int)) (k1 : ¬ y < x → zW p l e R s m args below meth c Q X D L xs mid N NS mc ms a ls st σ) (k2 : y < x → zW p l e R s m args below meth c Q X D L xs mid N NS mc ms (pc + 3) ls st σ) : zW p l e R s m args below meth c Q X D L xs mid N NS mc ms pc ls (.int y :: .int x :: st) σ := by
  intro H locs cells slots lr h1 h2 h3 h4 h5 h6 h7 h8
  refine lv_icmp_le C.1 C.2.1 hd ha (fun hh => ?_) (fun hh => ?_)
  · exact k1 (by first | exact hh | simpa [nI_0] using hh | (simp only [Int32.not_lt, nI_0] at hh ⊢; exact hh)) H locs cells slots lr h1 h2 h3 h4 h5 h6 h7 h8
  · exact k2 (by first | exact hh | simpa [nI_0] using hh | (simp only [Int32.not_lt, nI_0] at hh ⊢; exact hh)) H locs cells slots lr h1 h2 h3 h4 h5 h6 h7 h8
theorem s_ifCond_le (C : zCx X D L xs PS mid N NS mc ms p R s m args meth c) {x : Int32} {v : Int} {a : Nat} (hd : decode (zby mid) pc = .ok (.ifCond .le v, 3)) (ha : (pc : Int) + v = (a : Int)) (k1 : ¬ nI 0 < x → zW p l e R s m args below meth c Q X D L xs mid N NS mc ms a ls st σ) (k2 : nI 0 < x → zW p l e R s m args below meth c Q X D L xs mid N NS mc ms (pc + 3) ls st σ) : zW p l e R s m args below meth c Q X D L xs mid N NS mc ms pc ls (.int x :: st) σ := by
  intro H locs cells slots lr h1 h2 h3 h4 h5 h6 h7 h8
  refine lv_if_le C.1 C.2.1 hd ha (fun hh => ?_) (fun hh => ?_)
  · exact k1 (by first | exact hh | simpa [nI_0] using hh | (simp only [Int32.not_lt, nI_0] at hh ⊢; exact hh)) H locs cells slots lr h1 h2 h3 h4 h5 h6 h7 h8
  · exact k2 (by first | exact hh | simpa [nI_0] using hh | (simp only [Int32.not_lt, nI_0] at hh ⊢; exact hh)) H locs cells slots lr h1 h2 h3 h4 h5 h6 h7 h8
theorem s_tab (C : zCx X D L xs PS mid N NS mc ms p R s m args meth c) {f lo hi : Int} {offs : Array Int} {n : Nat} {x : Int32} (hd : decode (zby mid) pc = .ok (.tableswitch f lo hi offs, n)) (h0 : 0 ≤ (pc : Int) + f) (ho : ∀ v ∈ offs.toList, 0 ≤ (pc : Int) + v) (hn : (offs.size : Int) = hi - lo + 1) (k : zW p l e R s m args below meth c Q X D L xs mid N NS mc ms (zTab pc f lo hi offs x) ls st σ) : zW p l e R s m args below meth c Q X D L xs mid N NS mc ms pc ls (.int x :: st) σ := by
  intro H locs cells slots lr h1 h2 h3 h4 h5 h6 h7 h8
  have k1 := k H locs cells slots lr h1 h2 h3 h4 h5 h6 h7 h8
  unfold zTab at k1
  by_cases hx : x.toInt < lo ∨ hi < x.toInt
  · rw [if_pos hx] at k1
    exact lv_tableOut C.1 C.2.1 hd hx (by omega) k1
  · rw [if_neg hx] at k1
    have hx1 : ¬ x.toInt < lo := fun z => hx (Or.inl z)
    have hx2 : ¬ hi < x.toInt := fun z => hx (Or.inr z)
    have hlt : (x.toInt - lo).toNat < offs.size := by omega
    have hg : offs[(x.toInt - lo).toNat]? = some offs[(x.toInt - lo).toNat] := Array.getElem?_eq_getElem hlt
    have hm : 0 ≤ (pc : Int) + offs[(x.toInt - lo).toNat] := ho _ (Array.getElem_mem_toList hlt)
    rw [show offs.getD (x.toInt - lo).toNat 0 = offs[(x.toInt - lo).toNat] by rw [Array.getD_eq_getD_getElem?, hg]; rfl] at k1
    exact lv_tableIn C.1 C.2.1 hd hx1 hx2 hg (by omega) k1
theorem zlook_nn {pc : Nat} {f : Int} (h0 : 0 ≤ (pc : Int) + f) : ∀ (ps : List (Int × Int)) (z : Int), (∀ v ∈ ps, 0 ≤ (pc : Int) + v.2) → 0 ≤ (pc : Int) + Op.lookupswitch.offset ps f z := by
  intro ps
  induction ps with
  | nil => intro z _; exact h0
  | cons a ps ih =>
    intro z h
    obtain ⟨a1, a2⟩ := a
    unfold Op.lookupswitch.offset
    split
    · exact h _ List.mem_cons_self
    · exact ih z (fun v hv => h v (List.mem_cons_of_mem _ hv))
theorem s_look (C : zCx X D L xs PS mid N NS mc ms p R s m args meth c) {f : Int} {ps : Array (Int × Int)} {n : Nat} {x : Int32} (hd : decode (zby mid) pc = .ok (.lookupswitch f ps, n)) (h0 : 0 ≤ (pc : Int) + f) (ho : ∀ v ∈ ps.toList, 0 ≤ (pc : Int) + v.2) (hs : (ps.toList.zip (ps.toList.drop 1)).all (fun (a, next) => a.1 < next.1) = true) (k : zW p l e R s m args below meth c Q X D L xs mid N NS mc ms ((pc : Int) + Op.lookupswitch.offset ps.toList f x.toInt).toNat ls st σ) : zW p l e R s m args below meth c Q X D L xs mid N NS mc ms pc ls (.int x :: st) σ := by
  intro H locs cells slots lr h1 h2 h3 h4 h5 h6 h7 h8
  have k1 := k H locs cells slots lr h1 h2 h3 h4 h5 h6 h7 h8
  have h9 := zlook_nn h0 ps.toList x.toInt ho
  exact lv_lookup C.1 C.2.1 hd hs rfl (by omega) k1
end ZW
