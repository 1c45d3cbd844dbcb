def R_law : String := "LikeRegistryLaw"
def lw_P (b : Addr) (xs : List Int32) (args : Array Value) (s : State) : Prop := args = #[.ref b] ∧ s.IntsAt b xs ∧ xs.length ≤ 3072 ∧ (Jvm.Cond.and given_1 narrow_1).before args s = true
def lw_Q (_ : Array Value) (s : State) (o : Outcome) (t : State) : Prop := o = .returned (some (.int 1)) ∧ Framed s o t [] 600000 7302249
def lw_Z (below : List Frame) (a : Array Value) (s : State) : State → Prop := fun t => ∃ o, t.status = .running ∧ Ended t below o ∧ lw_Q a s o t
def lw_At (p : Program) (s : State) (m : MethodId) (meth : Method) (c : Code) (b L : Nat) (xs : Nat → Int32) : Prop :=
  p.tables.exec = Jvm.exec ∧ c.code = code ∧ meth.sig.returnType = ret ∧ c.maxLocals = 4 ∧ s.vm.findClass R_law = some m.cls ∧ (∀ w ∈ lw_tbl, w.before #[Value.ref b] s = true) ∧ va_X b L xs s s.heap ∧ b < s.heap.size ∧ meth.locks = false ∧ (Jvm.Cond.and given_1 narrow_1).before #[Value.ref b] s = true
theorem zG0 {args : Array Value} {s : State} {b L : Nat} {xs : Nat → Int32} (hts : ∀ w ∈ lw_tbl, w.before args s = true) (hX : va_X b L xs s s.heap) (hbl : b < s.heap.size) (hgv : (Jvm.Cond.and given_1 narrow_1).before args s = true) : ∃ (D : va_G) (adK adV : Nat → Nat), zG (s.heap.size, b, adK) D L xs (zPS (s.heap.size, b, adK) adV) s := by
  obtain ⟨D, hD⟩ := zclasses hts
  obtain ⟨adK, adV, hS, hK⟩ := zstr hgv
  have hs : ∀ w ∈ zFl, w.before args s = true := flat_of_before _ hgv
  refine ⟨D, adK, adV, hD, hX, hbl, Nat.le_refl _, fun q hq => va_Nw.of rfl (hts _ (zWn_in q hq)), fun ci hc => va_AO.of (hts _ (zAOin ci hc)), fun q hq => ?_, hS, ?_, ?_, Nat.le_refl _⟩
  · obtain ⟨tx, ht⟩ := zstrR q hq
    obtain ⟨h1, h2⟩ := zWq_tm q hq
    have h3 := hK _ h1
    unfold zTm at h3
    rw [h2] at h3
    exact ⟨tx, vk_R.of (hts _ ht) h3⟩
  · exact va_Zof (hts _ (tb_1 (List.mem_of_getElem? (i := 226) rfl))) (hts _ (tb_1 (List.mem_of_getElem? (i := 8) rfl))) (va_eqt (hs _ (List.mem_of_getElem? zf_cs))) (fun a ha hA => absurd ha (Nat.not_lt.mpr hA))
  · exact va_Zqof (hts _ (tb_2 (List.mem_of_getElem? (i := 2) rfl))) (hts _ (tb_1 (List.mem_of_getElem? (i := 10) rfl))) (hs _ (List.mem_of_getElem? zf_sf)) (fun a ha hA => absurd ha (Nat.not_lt.mpr hA))
theorem z385 : zby 385 = code ∧ zrt 385 = ret ∧ zmx 385 = 4 ∧ zow 385 = 12 ∧ zcn 12 = R_law := ⟨rfl, rfl, rfl, rfl, rfl⟩
theorem z385i : 385 ∉ zIni := by decide +kernel
/-- what the small machine does from the law's entry, the machine does: the claim follows -/
theorem zlaw {p : Program} {e : Env} {s : State} {m : MethodId} {below : List Frame} {meth : Method} {c : Code} (l : Launch) {b L : Nat} {xs : Nat → Int32} (C0 : lw_At p s m meth c b L xs) {d : Nat} (hd : d ≤ 1000)
    (h : zX d 385 0 (zEnt [.ref 0] 4) [] (z0 L xs) (fun r τ => r = some (.int 1) ∧ τ.1.length ≤ 600001 ∧ zsl τ ≤ L + 7302249)) : W p l e room_1 s m #[Value.ref b] below meth c s.heap [] 0 0 (lw_Z below #[Value.ref b] s) (entryFrame m ([Value.ref b] : List Value).toArray 4) := by
  obtain ⟨n, rv, τ, hr, rfl, hc, hsl⟩ := h
  obtain ⟨hexec, hcode, hret, hml, hown, hts, hX, hbl, hlocks, hgv⟩ := C0
  obtain ⟨D, adK, adV, hG⟩ := zG0 hts hX hbl hgv
  have hex := (zrun_p _ _ _ _ _ _ _ _ _ hr).len
  have e1 : (z0 L xs).1.length = 1 := rfl
  have e2 : zsl (z0 L xs) = L := rfl
  rw [e1, e2] at hex
  have hN : τ.1.length < zNul := Nat.lt_of_le_of_lt hc (by decide)
  have C : zCx (s.heap.size, b, adK) D L xs (zPS (s.heap.size, b, adK) adV) 385 τ.1.length (zsl τ) (τ.1.length - 1) (zsl τ - L) p room_1 s m #[Value.ref b] meth c :=
    ⟨hexec, hcode, hret, hml, hown, fun w hw => hts w (List.mem_filter.mp hw).1, hlocks, fun hi => absurd hi z385i, hG, hN, by show τ.1.length - 1 ≤ 600000; omega, by show zsl τ - L ≤ 7302249; omega, by decide, by decide⟩
  have hW := zsound (l := l) zgood (zPS_ok _ _) (zHS_ok l _ D L xs adV) n d 385 0 _ [] (z0 L xs) _ τ hr p e room_1 s m #[Value.ref b] below meth c _ _ C (by show d + 4 + 1 ≤ 2048; omega) (by show 60 * (d + 4 + 1) ≤ 84000; omega)
  have hl := lv_entry ([Value.ref b] : List Value) (n := 4) (Nat.le_of_ble_eq_true rfl)
  rw [lg_entry_eq]
  have hW := hW s.heap [] 0 0 _ (zSm0 rfl) va_S.rf ⟨hl.1, hl.2.1, fun q hq => hl.2.2 q (zEnt_args [.ref 0] 4 0 q rfl hq)⟩ (by rw [e1]; omega) (by rw [e2]; omega) (by rw [e1]; exact hex.1) (by rw [e2]; exact hex.2) rfl
  intro T hT X
  obtain ⟨t, a1, o, b1, b2, b3, Ls, b4, b5⟩ := hW T hT X
  exact ⟨t, a1, o, b1, b2, b3.1, zforget b4 b5 (by omega) (by omega)⟩
