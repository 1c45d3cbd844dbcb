/-! String.length, String.charAt of the constants -/
def zlen : List Nat := zText.map List.length
def zbyt : List (List Int32) := zText.map (fun l => l.map nI)
def zPS (X : zXe) (adV : Nat → Nat) (U : State) : Prop := vk_S 9 zlen zbyt X.2.2 adV (fun q => X.1 ≤ q) U U.heap ∧ va_Z "java/lang/String" "COMPACT_STRINGS" "Z" (.int 1) (fun q => X.1 ≤ q) U U.heap ∧ va_Zq "jdk/internal/util/Preconditions" "SIOOBE_FORMATTER" "Ljava/util/function/BiFunction;" (fun q => X.1 ≤ q) U U.heap ∧ X.1 ≤ U.heap.size
theorem zPS_ok (X : zXe) (adV : Nat → Nat) : zPSok X (zPS X adV) := by
  intro u U hW hh hs h
  have hk : ∀ a : Nat, a < u.heap.size → ¬ (fun q => X.1 ≤ q) a → U.heap[a]? = u.heap[a]? := fun a _ h => hh a (Nat.not_le.mp h)
  exact ⟨(h.1.kept hk).moved hW.alike, (h.2.1.kept hk).moved hW.alike, (h.2.2.1.kept hk).moved hW.alike, hs⟩
def zQs (r : Option Value) : Array Value → State → Outcome → State → Prop := fun _ st o t => o = .returned r ∧ t.heap = st.heap
def zMs (l : Launch) (X : zXe) (adV : Nat → Nat) (d : Nat) (y : MethodName) (code : ByteArray) (mx : Nat) (rt : Option FieldType) (as : List Value) (r : Option Value) : Prop :=
  Met l y (Cond.code y code mx rt :: zTB) (zRm d 0 0) (va_Pc as (zPS X adV)) (zQs r) 0 0 (fun _ => False)
theorem zs_good {y : MethodName} {code : ByteArray} {mx : Nat} {rt : Option FieldType} (h : Cond.code y code mx rt ∈ lw_tbl) : GoodIn zTB (Cond.code y code mx rt :: zTB) := by
  intro w hw
  rcases List.mem_cons.mp hw with rfl | hw
  · exact ⟨zTB_of h rfl, good_of_word rfl⟩
  · exact ⟨hw, good_of_word (List.mem_filter.mp hw).2⟩
section ZST
variable {l : Launch} {X : zXe} {adV : Nat → Nat}
theorem zS_of {d : Nat} {y : MethodName} {code : ByteArray} {mx : Nat} {rt : Option FieldType} {as : List Value} {r : Option Value} (hy : plainName y.cls = true) (hw : (lg_sl as).length ≤ mx)
    (body : ∀ (p : Program) (e : Env) (R : Room) (s : State) (m : MethodId) (below : List Frame) (meth : Method) (c : Code) (lr : Array Slot), p.tables.exec = Jvm.exec → c.code = code → meth.sig.returnType = rt → c.maxLocals = mx → s.vm.findClass y.cls = some m.cls → (∀ w ∈ zTB, w.before as.toArray s = true) → meth.locks = false → zPS X adV s → lv_has lr mx (lv_args 0 as) → d + 1 ≤ R.frames → 60 * (d + 1) ≤ R.locals →
      W p l e R s m as.toArray below meth c s.heap [] 0 0 (MQ below (zQs r) as.toArray s 0 0 (fun _ => False)) (F0 m 0 lr [])) : zMs l X adV d y code mx rt as r := by
  refine Met.ofW (cc := code) (maxL := mx) (ret := rt) hy rfl ?_
  intro p e s m args below meth c s₁ B hml hv
  obtain ⟨rfl, hPS⟩ := hv
  have hts0 := atoms_spec (ws := Cond.code y code mx rt :: zTB) B.pre
  rw [lg_entry_eq]
  exact body p e _ s m below meth c _ B.exec B.bytes B.returns hml (findClass_of_methodNamed B.named) (fun w hw => hts0 w (List.mem_cons_of_mem _ hw)) B.notSynchronized hPS (lv_entry as hw) (Nat.le_refl _) (Nat.le_refl _)
theorem zPS_blind (as : List Value) : FrameBlind (va_Pc as (zPS X adV)) := by
  intro a U g mk h
  obtain ⟨h1, h2⟩ := h
  exact ⟨h1, (h2.1.moved (U := U.calling g mk a) (Vm.Alike.refl U.vm)), h2.2.1.moved (U := U.calling g mk a) (Vm.Alike.refl U.vm), h2.2.2.1.moved (U := U.calling g mk a) (Vm.Alike.refl U.vm), h2.2.2.2⟩
def y_coder : MethodName := ⟨"java/lang/String", "coder", "()B"⟩
def y_isLatin1 : MethodName := ⟨"java/lang/String", "isLatin1", "()Z"⟩
def y_length : MethodName := ⟨"java/lang/String", "length", "()I"⟩
def y_charAt : MethodName := ⟨"java/lang/String", "charAt", "(I)C"⟩
def y_check : MethodName := ⟨"java/lang/String", "checkIndex", "(II)V"⟩
def y_pre : MethodName := ⟨"jdk/internal/util/Preconditions", "checkIndex", "(IILjava/util/function/BiFunction;)I"⟩
def y_lat : MethodName := ⟨"java/lang/StringLatin1", "charAt", "([BI)C"⟩
theorem m_coder {i : Nat} (hi : i < 9) : zMs l X adV 0 y_coder prog_16_method_152_code 1 (some .byte) [.ref (X.2.2 i)] (some (.int 0)) := by
  refine zS_of (by decide +kernel) (Nat.le_of_ble_eq_true rfl) ?_
  intro p e R s m below meth c lr hx hb hr hml hown hts hlocks hPS hl hf hlo
  have hS : va_S (fun q => X.1 ≤ q) s.heap s.heap [] := va_S.rf
  refine va_gets hx hb hPS.2.1 hS hown (ref := "java/lang/String") (index := 38) (hts _ (zTB_of (tb_1 (List.mem_of_getElem? (i := 225) rfl)) rfl)) (fun _ h => h) (pc := 0) (by decide +kernel) ?_
  refine lv_if_eq (tgt := 13) hx hb (pc := 3) (off := 10) (by decide +kernel) (by decide) (fun hh => absurd hh (by decide)) (fun _ => ?_)
  refine lv_aload_n (k := 0) (i := 0) hx hb (pc := 6) (by decide +kernel) rfl (lv_at hl 0 rfl) ?_
  refine vk_getf hx hb (hPS.1.1 i hi).2.1 hS hown (ref := "java/lang/String") (index := 15) (hts _ (zTB_of (tb_10 (List.mem_of_getElem? (i := 157) rfl)) rfl)) (fun _ h => h) (pc := 7) (by decide +kernel) ?_
  refine lv_goto (tgt := 14) hx hb (pc := 10) (off := 4) (by decide +kernel) (by decide) ?_
  exact W.zret (v := 0) hx hb hr (by decide +kernel) (fun t ht hW => ⟨rfl, ht⟩) (fun _ h => by cases h) (pc := 14) (by decide +kernel) hlocks
theorem m_isLatin1 {i : Nat} (hi : i < 9) : zMs l X adV 0 y_isLatin1 prog_16_method_154_code 1 (some .boolean) [.ref (X.2.2 i)] (some (.int 1)) := by
  refine zS_of (by decide +kernel) (Nat.le_of_ble_eq_true rfl) ?_
  intro p e R s m below meth c lr hx hb hr hml hown hts hlocks hPS hl hf hlo
  have hS : va_S (fun q => X.1 ≤ q) s.heap s.heap [] := va_S.rf
  refine va_gets hx hb hPS.2.1 hS hown (ref := "java/lang/String") (index := 38) (hts _ (zTB_of (tb_1 (List.mem_of_getElem? (i := 225) rfl)) rfl)) (fun _ h => h) (pc := 0) (by decide +kernel) ?_
  refine lv_if_eq (tgt := 17) hx hb (pc := 3) (off := 14) (by decide +kernel) (by decide) (fun hh => absurd hh (by decide)) (fun _ => ?_)
  refine lv_aload_n (k := 0) (i := 0) hx hb (pc := 6) (by decide +kernel) rfl (lv_at hl 0 rfl) ?_
  refine vk_getf hx hb (hPS.1.1 i hi).2.1 hS hown (ref := "java/lang/String") (index := 15) (hts _ (zTB_of (tb_10 (List.mem_of_getElem? (i := 157) rfl)) rfl)) (fun _ h => h) (pc := 7) (by decide +kernel) ?_
  refine lv_if_ne (tgt := 17) hx hb (pc := 10) (off := 7) (by decide +kernel) (by decide) (fun hh => absurd rfl hh) (fun _ => ?_)
  refine lv_iconst (v := 1) (n := 1) hx hb (pc := 13) (by decide +kernel) (by decide) ?_
  refine lv_goto (tgt := 18) hx hb (pc := 14) (off := 4) (by decide +kernel) (by decide) ?_
  exact W.zret (v := 1) hx hb hr (by decide +kernel) (fun t ht hW => ⟨rfl, ht⟩) (fun _ h => by cases h) (pc := 18) (by decide +kernel) hlocks
theorem m_pre {k n : Nat} (v : Value) (hv : v.category = 1) (hk : k < n) (hn : n < 2 ^ 31) : zMs l X adV 0 y_pre prog_21_method_11_code 3 (some .int) [.int (nI k), .int (nI n), v] (some (.int (nI k))) := by
  refine zS_of (by decide +kernel) ?_ ?_
  · cases v <;> first | exact Nat.le_of_ble_eq_true rfl | cases hv
  intro p e R s m below meth c lr hx hb hr hml hown hts hlocks hPS hl hf hlo
  have hl : lv_has lr 3 [(0, .int (nI k)), (1, .int (nI n)), (2, v)] := ⟨hl.1, hl.2.1, fun q hq => hl.2.2 q hq⟩
  refine lv_iload_n (k := 0) (i := 0) hx hb (pc := 0) (by decide +kernel) rfl (lv_at hl 0 rfl) ?_
  refine lv_if_lt (tgt := 9) hx hb (pc := 1) (off := 8) (by decide +kernel) (by decide) (fun hh => absurd hh (nI_pos (by omega))) (fun _ => ?_)
  refine lv_iload_n (k := 0) (i := 0) hx hb (pc := 4) (by decide +kernel) rfl (lv_at hl 0 rfl) ?_
  refine lv_iload_n (k := 1) (i := 1) hx hb (pc := 5) (by decide +kernel) rfl (lv_at hl 1 rfl) ?_
  refine lv_icmp_lt (tgt := 16) hx hb (pc := 6) (off := 10) (by decide +kernel) (by decide) (fun _ => ?_) (fun hh => absurd (nI_lt hk hn) hh)
  refine lv_iload_n (k := 0) (i := 0) hx hb (pc := 16) (by decide +kernel) rfl (lv_at hl 0 rfl) ?_
  exact W.iret (v := nI k) hx hb hr (fun t ht hW => ⟨rfl, ht⟩) (fun _ h => by cases h) (pc := 17) (by decide +kernel) hlocks
/-- a call of one of these, from anywhere -/
theorem zS_pre {s : State} {H : Heap} {locs : List Loc} (hPS : zPS X adV s) (hS : va_S (fun q => X.1 ≤ q) s.heap H locs) (as : List Value) : ∀ U : State, U.heap = H → s.WarmedH U.vm → va_Pc as (zPS X adV) as.toArray U := fun U hU hW =>
  have hs0 := hPS.2.2.2
  ⟨rfl, zPS_ok X adV s U hW (fun q hq => by rw [hU]; exact hS.2.1 q (Nat.lt_of_lt_of_le hq hs0) (Nat.not_le.mpr hq)) (by rw [hU]; exact Nat.le_trans hs0 hS.1) hPS⟩
theorem zS_after {p : Program} {e : Env} {R : Room} {s : State} {m : MethodId} {args : Array Value} {below : List Frame} {meth : Method} {c : Code} {Q : State → Prop} {pc : Nat} {lr : Array Slot} {H : Heap} {locs : List Loc} {cells slots : Nat} {st0 rest : List Value} {a : Array Value} {rv : Option Value}
    (hr : va_Run p l e R s m args below meth c H locs cells slots 0 0 (F0 m pc lr st0) rest (zQs rv a) (fun _ => False)) (k : W p l e R s m args below meth c H locs cells slots Q (F0 m (pc + 3) lr (rv.toList ++ rest))) : W p l e R s m args below meth c H locs cells slots Q (F0 m pc lr st0) := by
  refine zW_run hr fun v st₀ t L1 e0 hal hq hL => ?_
  obtain ⟨q1, q2⟩ := hq
  cases q1
  have hn : L1 = [] := by
    cases L1 with
    | nil => rfl
    | cons q L1 => exact (hL q List.mem_cons_self).elim
  rw [hn, q2, e0, List.append_nil]
  exact k
theorem zS_B {R : Room} {s : State} {args : Array Value} {d : Nat} {y : MethodName} {code : ByteArray} {mx : Nat} {rt : Option FieldType} {own : String} {idx n : Nat} (hts : ∀ w ∈ zTB, w.before args s = true) (hcode : Cond.code y code mx rt ∈ lw_tbl) (hini : Cond.initialized y.cls ∈ lw_tbl) (hl : Cond.methodLink own idx y ∈ lw_tbl) (hd : y.cls ≠ "java/lang/invoke/MethodHandle" ∧ y.cls ≠ "java/lang/invoke/VarHandle" ∧ (parseMethodDescriptor y.desc).map (fun d => d.parameters.length) = some n) (hmx : mx ≤ 41) (hf : d + 2 ≤ R.frames) (hlo : 60 * (d + 2) ≤ R.locals) :
    CallB R s args own idx y code mx rt (Cond.code y code mx rt :: zTB) (zRm d 0 0) 0 0 n :=
  callB_of n hts (zs_good hcode) rfl rfl rfl (hts _ (zTB_of hini rfl)) (hts _ (zTB_of hl rfl)) hd ⟨by show d + 1 + 1 ≤ R.frames; omega, by show 8 + (mx + 11) + 60 * (d + 1) ≤ R.locals; omega⟩
theorem m_check {k n : Nat} (hk : k < n) (hn : n < 2 ^ 31) : zMs l X adV 1 y_check prog_16_method_155_code 2 none [.int (nI k), .int (nI n)] none := by
  refine zS_of (by decide +kernel) (Nat.le_of_ble_eq_true rfl) ?_
  intro p e R s m below meth c lr hx hb hr hml hown hts hlocks hPS hl hf hlo
  have hS : va_S (fun q => X.1 ≤ q) s.heap s.heap [] := va_S.rf
  have hl : lv_has lr 2 [(0, .int (nI k)), (1, .int (nI n))] := ⟨hl.1, hl.2.1, fun q hq => hl.2.2 q hq⟩
  refine lv_iload_n (k := 0) (i := 0) hx hb (pc := 0) (by decide +kernel) rfl (lv_at hl 0 rfl) ?_
  refine lv_iload_n (k := 1) (i := 1) hx hb (pc := 1) (by decide +kernel) rfl (lv_at hl 1 rfl) ?_
  have go : ∀ v : Value, v.category = 1 → va_Z "jdk/internal/util/Preconditions" "SIOOBE_FORMATTER" "Ljava/util/function/BiFunction;" v (fun q => X.1 ≤ q) s s.heap → W p l e R s m [Value.int (nI k), Value.int (nI n)].toArray below meth c s.heap [] 0 0 (MQ below (zQs none) [Value.int (nI k), Value.int (nI n)].toArray s 0 0 (fun _ => False)) (F0 m 2 lr [.int (nI n), .int (nI k)]) := by
    intro v hv hZ
    refine va_gets hx hb hZ hS hown (ref := "jdk/internal/util/Preconditions") (index := 1053) (hts _ (zTB_of (tb_2 (List.mem_of_getElem? (i := 1) rfl)) rfl)) (fun _ h => h) (pc := 2) (by decide +kernel) ?_
    refine zS_after (rv := some (.int (nI k))) (rest := []) (va_runS (As := [.int (nI k), .int (nI n), v]) (n := 3) (index := 1059) ⟨hx, hb, hml, hown, hts⟩ (m_pre (l := l) (X := X) (adV := adV) v hv hk hn) ⟨zS_B hts (tb_2 (List.mem_of_getElem? (i := 5) rfl)) (tb_1 (List.mem_of_getElem? (i := 10) rfl)) (tb_2 (List.mem_of_getElem? (i := 3) rfl)) (by decide +kernel) (by decide) (by omega) (by omega), hts _ (zTB_of (tb_2 (List.mem_of_getElem? (i := 4) rfl)) rfl)⟩ ⟨zPS_blind _, zS_pre hPS hS _⟩ rfl rfl hl.1 rfl (lv_room (Nat.le_of_ble_eq_true rfl)) (show decode prog_16_method_155_code 5 = .ok (.invokestatic 1059, 3) by decide +kernel) ⟨Nat.zero_le _, Nat.zero_le _⟩) ?_
    refine lv_pop hx hb (pc := 8) (by decide +kernel) rfl ?_
    exact W.vret hx hb hr (fun t ht hW => ⟨rfl, ht⟩) (fun _ h => by cases h) (pc := 9) (by decide +kernel) hlocks
  rcases hPS.2.2.1 with h | ⟨t, h⟩
  · exact go _ rfl h
  · exact go _ rfl h
/-- the sign at a place, of a constant that is all Latin -/
theorem ztx_ok : ∀ i, i < 9 → (zlen.getD i 0 = (zText.getD i []).length ∧ (zText.getD i []).length < 2 ^ 31) ∧ ∀ j, j < (zText.getD i []).length → ((zbyt.getD i []).getD j 0 &&& 255).toUInt32 % 65536 = ((nI ((zText.getD i []).getD j 0)).toUInt32) := by decide +kernel
theorem ztx_nar : ∀ i, i < 9 → ∀ j, j < (zText.getD i []).length → narrow .char (.int (nI ((zText.getD i []).getD j 0))) = .int (nI ((zText.getD i []).getD j 0)) := by decide +kernel
theorem m_lat {i k : Nat} (hi : i < 9) (hk : k < (zText.getD i []).length) : zMs l X adV 2 y_lat prog_17_method_2_code 2 (some .char) [.ref (adV i), .int (nI k)] (some (.int (nI ((zText.getD i []).getD k 0)))) := by
  refine zS_of (by decide +kernel) (Nat.le_of_ble_eq_true rfl) ?_
  intro p e R s m below meth c lr hx hb hr hml hown hts hlocks hPS hl hf hlo
  have hS : va_S (fun q => X.1 ≤ q) s.heap s.heap [] := va_S.rf
  obtain ⟨⟨t1, t2⟩, t3⟩ := ztx_ok i hi
  have hT := (hPS.1.1 i hi).2.2.2
  rw [t1] at hT
  have hl : lv_has lr 2 [(0, .ref (adV i)), (1, .int (nI k))] := ⟨hl.1, hl.2.1, fun q hq => hl.2.2 q hq⟩
  refine lv_iload_n (k := 1) (i := 1) hx hb (pc := 0) (by decide +kernel) rfl (lv_at hl 1 rfl) ?_
  refine lv_aload_n (k := 0) (i := 0) hx hb (pc := 1) (by decide +kernel) rfl (lv_at hl 0 rfl) ?_
  refine va_tlen hx hb hT hS (v := nI (zText.getD i []).length) rfl (pc := 2) (by decide +kernel) ?_
  refine zS_after (rv := none) (rest := []) (va_runS (As := [.int (nI k), .int (nI (zText.getD i []).length)]) (n := 2) (index := 9) ⟨hx, hb, hml, hown, hts⟩ (m_check (l := l) (X := X) (adV := adV) hk t2) ⟨zS_B hts (tb_2 (List.mem_of_getElem? (i := 0) rfl)) (tb_1 (List.mem_of_getElem? (i := 8) rfl)) (tb_1 (List.mem_of_getElem? (i := 238) rfl)) (by decide +kernel) (by decide) (by omega) (by omega), hts _ (zTB_of (tb_1 (List.mem_of_getElem? (i := 239) rfl)) rfl)⟩ ⟨zPS_blind _, zS_pre hPS hS _⟩ rfl rfl hl.1 rfl (lv_room (Nat.le_of_ble_eq_true rfl)) (show decode prog_17_method_2_code 3 = .ok (.invokestatic 9, 3) by decide +kernel) ⟨Nat.zero_le _, Nat.zero_le _⟩) ?_
  refine lv_aload_n (k := 0) (i := 0) hx hb (pc := 6) (by decide +kernel) rfl (lv_at hl 0 rfl) ?_
  refine lv_iload_n (k := 1) (i := 1) hx hb (pc := 7) (by decide +kernel) rfl (lv_at hl 1 rfl) ?_
  refine va_tb hx hb hT hS (vp_in_nI hk t2) (v := .int ((zbyt.getD i []).getD k 0)) (by rw [nI_clamp (by omega)]) (pc := 8) (by decide +kernel) ?_
  refine lv_sipush (v := 255) (n := 255) hx hb (pc := 9) (by decide +kernel) (by decide) ?_
  refine lv_iand hx hb (pc := 12) (by decide +kernel) ?_
  refine lv_i2c (v := nI ((zText.getD i []).getD k 0)) hx hb (pc := 13) (by decide +kernel) (by rw [t3 k hk]; rfl) ?_
  exact W.zret (v := nI ((zText.getD i []).getD k 0)) hx hb hr (ztx_nar i hi k hk) (fun t ht hW => ⟨rfl, ht⟩) (fun _ h => by cases h) (pc := 14) (by decide +kernel) hlocks
theorem zS_recv {s : State} {H : Heap} {locs : List Loc} {i : Nat} (hi : i < 9) (hPS : zPS X adV s) (hS : va_S (fun q => X.1 ≤ q) s.heap H locs) : ∃ cell : Cell, H[X.2.2 i]? = some cell ∧ cell.vm.isStatics = false ∧ s.vm.findClass "java/lang/String" = some cell.cls := vk_recv hPS.1 hi hS
theorem m_charAt {i k : Nat} (hi : i < 9) (hk : k < (zText.getD i []).length) : zMs l X adV 3 y_charAt prog_16_method_56_code 2 (some .char) [.ref (X.2.2 i), .int (nI k)] (some (.int (nI ((zText.getD i []).getD k 0)))) := by
  refine zS_of (by decide +kernel) (Nat.le_of_ble_eq_true rfl) ?_
  intro p e R s m below meth c lr hx hb hr hml hown hts hlocks hPS hl hf hlo
  have hS : va_S (fun q => X.1 ≤ q) s.heap s.heap [] := va_S.rf
  have hl : lv_has lr 2 [(0, .ref (X.2.2 i)), (1, .int (nI k))] := ⟨hl.1, hl.2.1, fun q hq => hl.2.2 q hq⟩
  refine lv_aload_n (k := 0) (i := 0) hx hb (pc := 0) (by decide +kernel) rfl (lv_at hl 0 rfl) ?_
  refine zS_after (rv := some (.int 1)) (rest := []) (va_runV (C := "java/lang/String") (b := X.2.2 i) (As := []) (n := 0) (index := 492) ⟨hx, hb, hml, hown, hts⟩ (m_isLatin1 (l := l) (X := X) (adV := adV) hi) ⟨zS_B hts (tb_1 (List.mem_of_getElem? (i := 234) rfl)) (tb_1 (List.mem_of_getElem? (i := 8) rfl)) (tb_1 (List.mem_of_getElem? (i := 231) rfl)) (by decide +kernel) (by decide) (by omega) (by omega), hts _ (zTB_of (tb_1 (List.mem_of_getElem? (i := 232) rfl)) rfl), hts _ (zTB_of (tb_1 (List.mem_of_getElem? (i := 233) rfl)) rfl)⟩ ⟨zPS_blind _, zS_recv hi hPS hS, zS_pre hPS hS _⟩ rfl rfl hl.1 rfl (lv_room (Nat.le_of_ble_eq_true rfl)) (show decode prog_16_method_56_code 1 = .ok (.invokevirtual 492, 3) by decide +kernel) ⟨Nat.zero_le _, Nat.zero_le _⟩) ?_
  refine lv_if_eq (tgt := 16) hx hb (pc := 4) (off := 12) (by decide +kernel) (by decide) (fun hh => absurd hh (by decide)) (fun _ => ?_)
  refine lv_aload_n (k := 0) (i := 0) hx hb (pc := 7) (by decide +kernel) rfl (lv_at hl 0 rfl) ?_
  refine vk_getf hx hb (hPS.1.1 i hi).2.2.1 hS hown (ref := "java/lang/String") (index := 9) (hts _ (zTB_of (tb_10 (List.mem_of_getElem? (i := 156) rfl)) rfl)) (fun _ h => h) (pc := 8) (by decide +kernel) ?_
  refine lv_iload_n (k := 1) (i := 1) hx hb (pc := 11) (by decide +kernel) rfl (lv_at hl 1 rfl) ?_
  refine zS_after (rv := some (.int (nI ((zText.getD i []).getD k 0)))) (rest := []) (va_runS (As := [.ref (adV i), .int (nI k)]) (n := 2) (index := 495) ⟨hx, hb, hml, hown, hts⟩ (m_lat (l := l) (X := X) (adV := adV) hi hk) ⟨zS_B hts (tb_1 (List.mem_of_getElem? (i := 237) rfl)) (tb_1 (List.mem_of_getElem? (i := 9) rfl)) (tb_1 (List.mem_of_getElem? (i := 235) rfl)) (by decide +kernel) (by decide) (by omega) (by omega), hts _ (zTB_of (tb_1 (List.mem_of_getElem? (i := 236) rfl)) rfl)⟩ ⟨zPS_blind _, zS_pre hPS hS _⟩ rfl rfl hl.1 rfl (lv_room (Nat.le_of_ble_eq_true rfl)) (show decode prog_16_method_56_code 12 = .ok (.invokestatic 495, 3) by decide +kernel) ⟨Nat.zero_le _, Nat.zero_le _⟩) ?_
  exact W.zret (v := nI ((zText.getD i []).getD k 0)) hx hb hr (ztx_nar i hi k hk) (fun t ht hW => ⟨rfl, ht⟩) (fun _ h => by cases h) (pc := 15) (by decide +kernel) hlocks
theorem m_length {i : Nat} (hi : i < 9) : zMs l X adV 1 y_length prog_16_method_54_code 1 (some .int) [.ref (X.2.2 i)] (some (.int (nI (zText.getD i []).length))) := by
  refine zS_of (by decide +kernel) (Nat.le_of_ble_eq_true rfl) ?_
  intro p e R s m below meth c lr hx hb hr hml hown hts hlocks hPS hl hf hlo
  have hS : va_S (fun q => X.1 ≤ q) s.heap s.heap [] := va_S.rf
  obtain ⟨⟨t1, t2⟩, t3⟩ := ztx_ok i hi
  have hT := (hPS.1.1 i hi).2.2.2
  rw [t1] at hT
  have hl : lv_has lr 1 [(0, .ref (X.2.2 i))] := ⟨hl.1, hl.2.1, fun q hq => hl.2.2 q hq⟩
  refine lv_aload_n (k := 0) (i := 0) hx hb (pc := 0) (by decide +kernel) rfl (lv_at hl 0 rfl) ?_
  refine vk_getf hx hb (hPS.1.1 i hi).2.2.1 hS hown (ref := "java/lang/String") (index := 9) (hts _ (zTB_of (tb_10 (List.mem_of_getElem? (i := 156) rfl)) rfl)) (fun _ h => h) (pc := 1) (by decide +kernel) ?_
  refine va_tlen hx hb hT hS (v := nI (zText.getD i []).length) rfl (pc := 4) (by decide +kernel) ?_
  refine lv_aload_n (k := 0) (i := 0) hx hb (pc := 5) (by decide +kernel) rfl (lv_at hl 0 rfl) ?_
  refine zS_after (rv := some (.int 0)) (rest := [.int (nI (zText.getD i []).length)]) (va_runV (C := "java/lang/String") (b := X.2.2 i) (As := []) (n := 0) (index := 335) ⟨hx, hb, hml, hown, hts⟩ (m_coder (l := l) (X := X) (adV := adV) hi) ⟨zS_B hts (tb_1 (List.mem_of_getElem? (i := 224) rfl)) (tb_1 (List.mem_of_getElem? (i := 8) rfl)) (tb_1 (List.mem_of_getElem? (i := 221) rfl)) (by decide +kernel) (by decide) (by omega) (by omega), hts _ (zTB_of (tb_1 (List.mem_of_getElem? (i := 222) rfl)) rfl), hts _ (zTB_of (tb_1 (List.mem_of_getElem? (i := 223) rfl)) rfl)⟩ ⟨zPS_blind _, zS_recv hi hPS hS, zS_pre hPS hS _⟩ rfl rfl hl.1 rfl (lv_room (Nat.le_of_ble_eq_true rfl)) (show decode prog_16_method_54_code 6 = .ok (.invokevirtual 335, 3) by decide +kernel) ⟨Nat.zero_le _, Nat.zero_le _⟩) ?_
  refine lv_ishr hx hb (pc := 9) (by decide +kernel) ?_
  rw [sc_shr0 t2]
  exact W.iret (v := nI (zText.getD i []).length) hx hb hr (fun t ht hW => ⟨rfl, ht⟩) (fun _ h => by cases h) (pc := 10) (by decide +kernel) hlocks
theorem zWt_ok : ∀ q ∈ zWt, (q.2.2 = 3 ∧ Cond.methodLink (zcn q.1) q.2.1 y_length ∈ lw_tbl) ∨ (q.2.2 = 4 ∧ Cond.methodLink (zcn q.1) q.2.1 y_charAt ∈ lw_tbl) :=
  List.forall_mem_cons.mpr ⟨Or.inl ⟨rfl, tb_1 (List.mem_of_getElem? (i := 217) rfl)⟩, List.forall_mem_cons.mpr ⟨Or.inr ⟨rfl, tb_1 (List.mem_of_getElem? (i := 227) rfl)⟩, List.forall_mem_cons.mpr ⟨Or.inl ⟨rfl, tb_4 (List.mem_of_getElem? (i := 185) rfl)⟩, List.forall_mem_cons.mpr ⟨Or.inr ⟨rfl, tb_4 (List.mem_of_getElem? (i := 186) rfl)⟩, List.forall_mem_cons.mpr ⟨Or.inl ⟨rfl, tb_8 (List.mem_of_getElem? (i := 64) rfl)⟩, List.forall_mem_cons.mpr ⟨Or.inr ⟨rfl, tb_8 (List.mem_of_getElem? (i := 65) rfl)⟩, fun _ h => absurd h List.not_mem_nil⟩⟩⟩⟩⟩⟩
theorem zHS_ok (l : Launch) (X : zXe) (D : va_G) (L : Nat) (xs : Nat → Int32) (adV : Nat → Nat) : zHS l X D L xs (zPS X adV) := by
  intro p e R s m args below meth c Q mid N NS mc ms pc ls st σ C hf hlo a b u v t hd hv k
  have hts := C.2.2.2.2.2.1
  have hPS := C.2.2.2.2.2.2.2.2.1.2.2.2.2.2.2.2
  have hs9 : ∀ r, zStr ≤ r → zE X r = .ref (X.2.2 (r - zStr)) := fun r h => by
    obtain ⟨q, rfl⟩ := Nat.le.dest h
    rw [zE_str, Nat.add_sub_cancel_left]
  rcases zWt_ok _ hv with ⟨ht, hl⟩ | ⟨ht, hl⟩
  · dsimp only at ht hl
    subst ht
    obtain ⟨r, s1, rfl, k⟩ := zA1_k (P := zCt p l e R s m args below meth c Q X D L xs (zPS X adV) mid N NS mc ms _) (fun h => h) k
    obtain ⟨⟨h1, h2, h3⟩, k⟩ := zif_k (P := zCt p l e R s m args below meth c Q X D L xs (zPS X adV) mid N NS mc ms _) (fun h => h) k
    intro H locs cells slots lr g1 g2 g3 g4 g5 g6 g7 g8
    have hi : r - zStr < 9 := Nat.sub_lt_left_of_lt_add h1 h2
    rw [List.map_cons, show zV X (.ref r) = zE X r from rfl, hs9 r h1]
    have hcl := C.2.2.2.2.2.2.2.2.2.2
    refine zS_after (rv := some (.int (nI (zText.getD (r - zStr) []).length))) (rest := s1.map (zV X)) (va_runV (C := "java/lang/String") (b := X.2.2 (r - zStr)) (As := []) (n := 0) (index := v) ⟨C.1, C.2.1, C.2.2.2.1, C.2.2.2.2.1, hts⟩ (m_length (l := l) (X := X) (adV := adV) hi) ⟨zS_B hts (tb_1 (List.mem_of_getElem? (i := 220) rfl)) (tb_1 (List.mem_of_getElem? (i := 8) rfl)) hl (by decide +kernel) (by decide) (by omega) (by omega), hts _ (zTB_of (tb_1 (List.mem_of_getElem? (i := 218) rfl)) rfl), hts _ (zTB_of (tb_1 (List.mem_of_getElem? (i := 219) rfl)) rfl)⟩ ⟨zPS_blind _, zS_recv hi hPS g2, zS_pre hPS g2 _⟩ rfl rfl g3.1 rfl ?_ hd ⟨by omega, by omega⟩) ?_
    · have hw2 := zwid_map (X := X) s1
      show 2 * 0 + _ ≤ 8
      omega
    · exact k.2 H locs cells slots lr g1 g2 g3 g4 g5 g6 g7 g8
  · dsimp only at ht hl
    subst ht
    obtain ⟨w, s0, rfl, k⟩ := zI1_k (P := zCt p l e R s m args below meth c Q X D L xs (zPS X adV) mid N NS mc ms _) (fun h => h) k
    obtain ⟨r, s1, rfl, k⟩ := zA1_k (P := zCt p l e R s m args below meth c Q X D L xs (zPS X adV) mid N NS mc ms _) (fun h => h) k
    obtain ⟨⟨⟨h1, h2, h3⟩, h4⟩, k⟩ := zif_k (P := zCt p l e R s m args below meth c Q X D L xs (zPS X adV) mid N NS mc ms _) (fun h => h) k
    intro H locs cells slots lr g1 g2 g3 g4 g5 g6 g7 g8
    have g9 : s1.all zgd = true := by
      rw [List.all_cons, List.all_cons, Bool.and_eq_true, Bool.and_eq_true] at g8
      exact g8.2.2
    have k1 := k.2 H locs cells slots lr g1 g2 g3 g4 g5 g6 g7 (by rw [List.all_cons, g9]; rfl)
    have hi : r - zStr < 9 := Nat.sub_lt_left_of_lt_add h1 h2
    rw [List.map_cons, List.map_cons, show zV X (.ref r) = zE X r from rfl, hs9 r h1]
    have hcl := C.2.2.2.2.2.2.2.2.2.2
    obtain ⟨j, hj, rfl⟩ := vp_in_of (zin_vp h4) (ztx_ok _ hi).1.2
    rw [nI_clamp (by have := (ztx_ok _ hi).1.2; omega)] at k1
    refine zS_after (rv := some (.int (nI ((zText.getD (r - zStr) []).getD j 0)))) (rest := s1.map (zV X)) (va_runV (C := "java/lang/String") (b := X.2.2 (r - zStr)) (As := [.int (nI j)]) (n := 1) (index := v) ⟨C.1, C.2.1, C.2.2.2.1, C.2.2.2.2.1, hts⟩ (m_charAt (l := l) (X := X) (adV := adV) hi hj) ⟨zS_B hts (tb_1 (List.mem_of_getElem? (i := 230) rfl)) (tb_1 (List.mem_of_getElem? (i := 8) rfl)) hl (by decide +kernel) (by decide) (by omega) (by omega), hts _ (zTB_of (tb_1 (List.mem_of_getElem? (i := 228) rfl)) rfl), hts _ (zTB_of (tb_1 (List.mem_of_getElem? (i := 229) rfl)) rfl)⟩ ⟨zPS_blind _, zS_recv hi hPS g2, zS_pre hPS g2 _⟩ rfl rfl g3.1 rfl ?_ hd ⟨by omega, by omega⟩) ?_
    · have hw2 := zwid_map (X := X) s1
      show 2 * 0 + _ ≤ 8
      omega
    · exact k1
end ZST
