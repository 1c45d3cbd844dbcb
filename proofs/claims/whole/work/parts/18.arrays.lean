section ZA
variable {p : Program} {l : Launch} {e : Env} {R : Room} {s : State} {m : MethodId} {args : Array Value} {below : List Frame} {meth : Method} {c : Code} {Q : State → Prop} {X : zXe} {D : va_G} {L : Nat} {xs : Nat → Int32} {PS : State → Prop} {mid N NS mc ms : Nat} {pc : Nat} {ls st : List Value} {σ τ : MS}
theorem zarr_ref (C : zCx X D L xs PS mid N NS mc ms p R s m args meth c) {r t : Nat} (h6 : σ.1.length ≤ N) (h0 : sK σ 0 = (6, L)) (h : (sK σ r).1 = t) (ht : zarr t) : 1 ≤ r ∧ r < σ.1.length ∧ zE X r = .ref (X.1 + (r - 1)) := by
  refine zcellref C h6 h0 ?_ ?_ <;> (rw [h]; rcases ht with z | z <;> omega)
theorem s_iaload (C : zCx X D L xs PS mid N NS mc ms p R s m args meth c) {r : Nat} {i : Int32} (hd : decode (zby mid) pc = .ok (.iaload, 1)) (hk : (sK σ r).1 = 1) (hi : zIn i (sK σ r).2 = true)
    (k : zW p l e R s m args below meth c Q X D L xs mid N NS mc ms (pc + 1) ls (.int (sI σ r i.toNatClampNeg) :: st) σ) : zW p l e R s m args below meth c Q X D L xs mid N NS mc ms pc ls (.int i :: .ref r :: st) σ := by
  intro H locs cells slots lr h1 h2 h3 h4 h5 h6 h7 h8
  obtain ⟨cA, g1, g2, g3, g4, g5, g6⟩ := id h1
  have ht : zarr 1 := Or.inl ⟨by omega, by omega⟩
  obtain ⟨r1, r2, r3⟩ := zarr_ref C h6 g5 hk ht
  rw [List.map_cons, List.map_cons, show zV X (.ref r) = zE X r from rfl, r3]
  have he := zws_at (X := X) (cA := cA) r1 r2
  rw [zcell_i hk (Or.inl rfl)] at he
  have hA := g1 r r1 r2 (by rw [hk]; exact ht)
  rw [hk] at hA
  exact va_iald C.1 C.2.1 (zKof1 C hA) g2 (r - 1) 0 he rfl (zin_vp hi) hd (k H locs cells slots lr h1 h2 h3 h4 h5 h6 h7 h8)
theorem s_ialoadS (C : zCx X D L xs PS mid N NS mc ms p R s m args meth c) {r : Nat} {i : Int32} (hd : decode (zby mid) pc = .ok (.iaload, 1)) (hr : r = 0) (hi : zIn i (sK σ r).2 = true)
    (k : zW p l e R s m args below meth c Q X D L xs mid N NS mc ms (pc + 1) ls (.int (sI σ r i.toNatClampNeg) :: st) σ) : zW p l e R s m args below meth c Q X D L xs mid N NS mc ms pc ls (.int i :: .ref r :: st) σ := by
  intro H locs cells slots lr h1 h2 h3 h4 h5 h6 h7 h8
  obtain ⟨cA, g1, g2, g3, g4, g5, g6⟩ := id h1
  subst hr
  rw [g5] at hi
  have hi2 := zin_vp hi
  have hlt : i.toNatClampNeg < L := Nat.not_le.mp fun q => hi2 (Or.inr q)
  have hG := C.2.2.2.2.2.2.2.2.1
  rw [List.map_cons, List.map_cons]
  have k1 := k H locs cells slots lr h1 h2 h3 h4 h5 h6 h7 h8
  rw [List.map_cons, show zV X (.int (sI σ 0 i.toNatClampNeg)) = .int (xs i.toNatClampNeg) by rw [← g6.1 _ hlt]; rfl] at k1
  exact va_sld C.1 C.2.1 hG.2.1 (by have := hG.2.2.1; have := hG.2.2.2.1; omega) (by have := hG.2.2.1; exact Nat.not_le.mpr this) h2 hi2 hd k1
theorem s_baload (C : zCx X D L xs PS mid N NS mc ms p R s m args meth c) {r : Nat} {i : Int32} (hd : decode (zby mid) pc = .ok (.baload, 1)) (hk : (sK σ r).1 = 3) (hi : zIn i (sK σ r).2 = true)
    (k : zW p l e R s m args below meth c Q X D L xs mid N NS mc ms (pc + 1) ls (.int (sI σ r i.toNatClampNeg) :: st) σ) : zW p l e R s m args below meth c Q X D L xs mid N NS mc ms pc ls (.int i :: .ref r :: st) σ := by
  intro H locs cells slots lr h1 h2 h3 h4 h5 h6 h7 h8
  obtain ⟨cA, g1, g2, g3, g4, g5, g6⟩ := id h1
  have ht : zarr 3 := Or.inl ⟨by omega, by omega⟩
  obtain ⟨r1, r2, r3⟩ := zarr_ref C h6 g5 hk ht
  rw [List.map_cons, List.map_cons, show zV X (.ref r) = zE X r from rfl, r3]
  have he := zws_at (X := X) (cA := cA) r1 r2
  rw [zcell_i hk (Or.inr rfl)] at he
  have hA := g1 r r1 r2 (by rw [hk]; exact ht)
  rw [hk] at hA
  exact va_bald C.1 C.2.1 (zKof1 C hA) g2 (r - 1) 0 he rfl (zin_vp hi) hd (k H locs cells slots lr h1 h2 h3 h4 h5 h6 h7 h8)
theorem s_laload (C : zCx X D L xs PS mid N NS mc ms p R s m args meth c) {r : Nat} {i : Int32} (hd : decode (zby mid) pc = .ok (.laload, 1)) (hk : (sK σ r).1 = 2) (hi : zIn i (sK σ r).2 = true)
    (k : zW p l e R s m args below meth c Q X D L xs mid N NS mc ms (pc + 1) ls (.long (sL σ r i.toNatClampNeg) :: st) σ) : zW p l e R s m args below meth c Q X D L xs mid N NS mc ms pc ls (.int i :: .ref r :: st) σ := by
  intro H locs cells slots lr h1 h2 h3 h4 h5 h6 h7 h8
  obtain ⟨cA, g1, g2, g3, g4, g5, g6⟩ := id h1
  have ht : zarr 2 := Or.inl ⟨by omega, by omega⟩
  obtain ⟨r1, r2, r3⟩ := zarr_ref C h6 g5 hk ht
  rw [List.map_cons, List.map_cons, show zV X (.ref r) = zE X r from rfl, r3]
  have he := zws_at (X := X) (cA := cA) r1 r2
  rw [zcell_l hk] at he
  have hA := g1 r r1 r2 (by rw [hk]; exact ht)
  rw [hk] at hA
  exact va_lald C.1 C.2.1 (zKof1 C hA) g2 (r - 1) 0 he rfl (zin_vp hi) hd (k H locs cells slots lr h1 h2 h3 h4 h5 h6 h7 h8)
theorem zaty_q {t : Nat} (h : 40 ≤ t) : zaty t = .object (zcn (t - 40)) := by
  unfold zaty
  split <;> first | omega | rfl
theorem s_aaload (C : zCx X D L xs PS mid N NS mc ms p R s m args meth c) {r : Nat} {i : Int32} (hd : decode (zby mid) pc = .ok (.aaload, 1)) (hk : 40 ≤ (sK σ r).1) (hk2 : (sK σ r).1 < 60) (hi : zIn i (sK σ r).2 = true)
    (k : zW p l e R s m args below meth c Q X D L xs mid N NS mc ms (pc + 1) ls (.ref (sR σ r i.toNatClampNeg) :: st) σ) : zW p l e R s m args below meth c Q X D L xs mid N NS mc ms pc ls (.int i :: .ref r :: st) σ := by
  intro H locs cells slots lr h1 h2 h3 h4 h5 h6 h7 h8
  obtain ⟨cA, g1, g2, g3, g4, g5, g6⟩ := id h1
  have ht : zarr (sK σ r).1 := Or.inr ⟨hk, hk2⟩
  obtain ⟨r1, r2, r3⟩ := zarr_ref C h6 g5 rfl ht
  rw [List.map_cons, List.map_cons, show zV X (.ref r) = zE X r from rfl, r3]
  have he := zws_at (X := X) (cA := cA) r1 r2
  rw [zcell_q rfl hk] at he
  have hA := g1 r r1 r2 ht
  rw [zaty_q hk] at hA
  exact va_aldq C.1 C.2.1 (zKof1 C hA) g2 (r - 1) 0 he rfl (zin_vp hi) hd (k H locs cells slots lr h1 h2 h3 h4 h5 h6 h7 h8)
theorem s_alen (C : zCx X D L xs PS mid N NS mc ms p R s m args meth c) {r : Nat} (hd : decode (zby mid) pc = .ok (.arraylength, 1)) (ht : zarr (sK σ r).1)
    (k : zW p l e R s m args below meth c Q X D L xs mid N NS mc ms (pc + 1) ls (.int (nI (sK σ r).2) :: st) σ) : zW p l e R s m args below meth c Q X D L xs mid N NS mc ms pc ls (.ref r :: st) σ := by
  intro H locs cells slots lr h1 h2 h3 h4 h5 h6 h7 h8
  obtain ⟨cA, g1, g2, g3, g4, g5, g6⟩ := id h1
  obtain ⟨r1, r2, r3⟩ := zarr_ref C h6 g5 rfl ht
  rw [List.map_cons, show zV X (.ref r) = zE X r from rfl, r3]
  have he := zws_at (X := X) (cA := cA) r1 r2
  have hA := g1 r r1 r2 ht
  have k1 := k H locs cells slots lr h1 h2 h3 h4 h5 h6 h7 h8
  have hx : ∃ x : vp_A, zcell X cA σ r = .inl (cA (sK σ r).1, x) ∧ x.1 = (sK σ r).2 := by
    rcases ht with z | z
    · rcases (show (sK σ r).1 = 1 ∨ (sK σ r).1 = 2 ∨ (sK σ r).1 = 3 by omega) with q | q | q
      · exact ⟨_, by rw [zcell_i q (Or.inl rfl), q], rfl⟩
      · exact ⟨_, by rw [zcell_l q, q], rfl⟩
      · exact ⟨_, by rw [zcell_i q (Or.inr rfl), q], rfl⟩
    · exact ⟨_, zcell_q rfl z.1, rfl⟩
  obtain ⟨x, hx1, hx2⟩ := hx
  rw [hx1] at he
  exact va_alen C.1 C.2.1 (zKof1 C hA) g2 (r - 1) 0 he rfl (v := nI (sK σ r).2) (by rw [hx2]; rfl) hd k1
theorem s_alenS (C : zCx X D L xs PS mid N NS mc ms p R s m args meth c) {r : Nat} (hd : decode (zby mid) pc = .ok (.arraylength, 1)) (hr : r = 0)
    (k : zW p l e R s m args below meth c Q X D L xs mid N NS mc ms (pc + 1) ls (.int (nI (sK σ r).2) :: st) σ) : zW p l e R s m args below meth c Q X D L xs mid N NS mc ms pc ls (.ref r :: st) σ := by
  intro H locs cells slots lr h1 h2 h3 h4 h5 h6 h7 h8
  obtain ⟨cA, g1, g2, g3, g4, g5, g6⟩ := id h1
  subst hr
  have hG := C.2.2.2.2.2.2.2.2.1
  have k1 := k H locs cells slots lr h1 h2 h3 h4 h5 h6 h7 h8
  rw [g5] at k1
  exact va_slen C.1 C.2.1 hG.2.1 (by have := hG.2.2.1; have := hG.2.2.2.1; omega) (by have := hG.2.2.1; exact Nat.not_le.mpr this) h2 hd k1
theorem zsz_eq (ht : τ.1 = σ.1) : zsl τ = zsl σ := by unfold zsl; rw [ht]
theorem zvn_i {i : Int32} {n : Nat} (h : vp_in i n) (cI : ClassId) (f : Nat → Value) : ¬ (i < 0 ∨ (arrV cI n f).slots.size ≤ i.toNatClampNeg) := by rw [arrV_size]; exact h
theorem s_iastore (C : zCx X D L xs PS mid N NS mc ms p R s m args meth c) {r : Nat} {i x : Int32} (hd : decode (zby mid) pc = .ok (.iastore, 1)) (hk : (sK σ r).1 = 1) (hi : zIn i (sK σ r).2 = true)
    (k : zW p l e R s m args below meth c Q X D L xs mid N NS mc ms (pc + 1) ls st (setI σ r i.toNatClampNeg x)) : zW p l e R s m args below meth c Q X D L xs mid N NS mc ms pc ls (.int x :: .int i :: .ref r :: st) σ := by
  intro H locs cells slots lr h1 h2 h3 h4 h5 h6 h7 h8
  obtain ⟨cA, g1, g2, g3, g4, g5, g6⟩ := id h1
  have ht : zarr 1 := Or.inl ⟨by omega, by omega⟩
  obtain ⟨r1, r2, r3⟩ := zarr_ref C h6 g5 hk ht
  rw [List.map_cons, List.map_cons, List.map_cons, show zV X (.ref r) = zE X r from rfl, r3]
  have he := zws_at (X := X) (cA := cA) r1 r2
  rw [zcell_i hk (Or.inl rfl)] at he
  have hA := g1 r r1 r2 (by rw [hk]; exact ht)
  rw [hk] at hA
  refine W.iast C.1 C.2.1 (g2 _ _ he) (hA.1 _ (fun j => .int (sI σ r j))) (fun q => by cases q) (zvn_i (zin_vp hi) _ _) rfl rfl hd fun H1 e1 e2 e3 => ?_
  refine k H1 _ cells slots lr (zSm_write (r := r) g1 g2 g3 g4 g5 g6 r1 r2 rfl (fun a ha i => if_neg (fun z => ha z.1)) (fun _ _ _ => rfl) (fun _ _ _ => rfl) ?_ e2 e3) (h2.put e2 e3 (Nat.le_add_right _ _)) h3 h4 h5 h6 h7 h8
  rw [zcell_i (σ := setI σ r i.toNatClampNeg x) hk (Or.inl rfl)]
  show H1[X.1 + (r - 1)]? = some (vp_cell _ _)
  rw [e1, vp_cell_i, vp_cell_i, arrV_store]
  congr 2
  funext q
  show updV (fun j => Value.int (sI σ r j)) i.toNatClampNeg (.int x) q = .int (if r = r ∧ q = i.toNatClampNeg then x else sI σ r q)
  by_cases hq : q = i.toNatClampNeg
  · subst hq; simp [updV]
  · simp [updV, hq]
theorem s_bastore (C : zCx X D L xs PS mid N NS mc ms p R s m args meth c) {r : Nat} {i x : Int32} (hd : decode (zby mid) pc = .ok (.bastore, 1)) (hk : (sK σ r).1 = 3) (hi : zIn i (sK σ r).2 = true)
    (k : zW p l e R s m args below meth c Q X D L xs mid N NS mc ms (pc + 1) ls st (setI σ r i.toNatClampNeg (vp_nar .byte x))) : zW p l e R s m args below meth c Q X D L xs mid N NS mc ms pc ls (.int x :: .int i :: .ref r :: st) σ := by
  intro H locs cells slots lr h1 h2 h3 h4 h5 h6 h7 h8
  obtain ⟨cA, g1, g2, g3, g4, g5, g6⟩ := id h1
  have ht : zarr 3 := Or.inl ⟨by omega, by omega⟩
  obtain ⟨r1, r2, r3⟩ := zarr_ref C h6 g5 hk ht
  rw [List.map_cons, List.map_cons, List.map_cons, show zV X (.ref r) = zE X r from rfl, r3]
  have he := zws_at (X := X) (cA := cA) r1 r2
  rw [zcell_i hk (Or.inr rfl)] at he
  have hA := g1 r r1 r2 (by rw [hk]; exact ht)
  rw [hk] at hA
  refine W.bast C.1 C.2.1 (g2 _ _ he) (hA.1 _ (fun j => .int (sI σ r j))) (fun q => by cases q) (zvn_i (zin_vp hi) _ _) rfl rfl hd fun H1 e1 e2 e3 => ?_
  refine k H1 _ cells slots lr (zSm_write (r := r) g1 g2 g3 g4 g5 g6 r1 r2 rfl (fun a ha i => if_neg (fun z => ha z.1)) (fun _ _ _ => rfl) (fun _ _ _ => rfl) ?_ e2 e3) (h2.put e2 e3 (Nat.le_add_right _ _)) h3 h4 h5 h6 h7 h8
  rw [zcell_i (σ := setI σ r i.toNatClampNeg (vp_nar .byte x)) hk (Or.inr rfl)]
  show H1[X.1 + (r - 1)]? = some (vp_cell _ _)
  rw [e1, vp_cell_i, vp_cell_i, arrV_store]
  congr 2
  funext q
  show updV (fun j => Value.int (sI σ r j)) i.toNatClampNeg (narrow .byte (.int x)) q = .int (if r = r ∧ q = i.toNatClampNeg then vp_nar .byte x else sI σ r q)
  by_cases hq : q = i.toNatClampNeg
  · subst hq
    rw [if_pos ⟨rfl, rfl⟩, vp_nar_byte]
    simp only [updV, if_true]
    rfl
  · simp [updV, hq]
theorem s_lastore (C : zCx X D L xs PS mid N NS mc ms p R s m args meth c) {r : Nat} {i : Int32} {x : Int64} (hd : decode (zby mid) pc = .ok (.lastore, 1)) (hk : (sK σ r).1 = 2) (hi : zIn i (sK σ r).2 = true)
    (k : zW p l e R s m args below meth c Q X D L xs mid N NS mc ms (pc + 1) ls st (setL σ r i.toNatClampNeg x)) : zW p l e R s m args below meth c Q X D L xs mid N NS mc ms pc ls (.long x :: .int i :: .ref r :: st) σ := by
  intro H locs cells slots lr h1 h2 h3 h4 h5 h6 h7 h8
  obtain ⟨cA, g1, g2, g3, g4, g5, g6⟩ := id h1
  have ht : zarr 2 := Or.inl ⟨by omega, by omega⟩
  obtain ⟨r1, r2, r3⟩ := zarr_ref C h6 g5 hk ht
  rw [List.map_cons, List.map_cons, List.map_cons, show zV X (.ref r) = zE X r from rfl, r3]
  have he := zws_at (X := X) (cA := cA) r1 r2
  rw [zcell_l hk] at he
  have hA := g1 r r1 r2 (by rw [hk]; exact ht)
  rw [hk] at hA
  refine W.last C.1 C.2.1 (g2 _ _ he) (hA.1 _ (fun j => .long (sL σ r j))) (fun q => by cases q) (zvn_i (zin_vp hi) _ _) rfl rfl hd fun H1 e1 e2 e3 => ?_
  refine k H1 _ cells slots lr (zSm_write (r := r) g1 g2 g3 g4 g5 g6 r1 r2 rfl (fun _ _ _ => rfl) (fun a ha i => if_neg (fun z => ha z.1)) (fun _ _ _ => rfl) ?_ e2 e3) (h2.put e2 e3 (Nat.le_add_right _ _)) h3 h4 h5 h6 h7 h8
  rw [zcell_l (σ := setL σ r i.toNatClampNeg x) hk]
  show H1[X.1 + (r - 1)]? = some (vp_cell _ _)
  rw [e1, vp_cell_l, vp_cell_l, arrV_store]
  congr 2
  funext q
  show updV (fun j => Value.long (sL σ r j)) i.toNatClampNeg (.long x) q = .long (if r = r ∧ q = i.toNatClampNeg then x else sL σ r q)
  by_cases hq : q = i.toNatClampNeg
  · subst hq; simp [updV]
  · simp [updV, hq]
theorem s_aastore (C : zCx X D L xs PS mid N NS mc ms p R s m args meth c) {r x : Nat} {i : Int32} (hd : decode (zby mid) pc = .ok (.aastore, 1)) (hk : 40 ≤ (sK σ r).1) (hk2 : (sK σ r).1 < 60) (hi : zIn i (sK σ r).2 = true) (hx : sK σ x = (0, (sK σ r).1 - 40))
    (k : zW p l e R s m args below meth c Q X D L xs mid N NS mc ms (pc + 1) ls st (setR σ r i.toNatClampNeg x)) : zW p l e R s m args below meth c Q X D L xs mid N NS mc ms pc ls (.ref x :: .int i :: .ref r :: st) σ := by
  intro H locs cells slots lr h1 h2 h3 h4 h5 h6 h7 h8
  obtain ⟨cA, g1, g2, g3, g4, g5, g6⟩ := id h1
  have ht : zarr (sK σ r).1 := Or.inr ⟨hk, hk2⟩
  obtain ⟨r1, r2, r3⟩ := zarr_ref C h6 g5 rfl ht
  obtain ⟨x1, x2, x3⟩ := zcellref C h6 g5 (r := x) (by rw [hx]; exact (by decide : (0 : Nat) ≠ 99)) (by rw [hx]; exact (by decide : (0 : Nat) ≠ 6))
  rw [List.map_cons, List.map_cons, List.map_cons, show zV X (.ref r) = zE X r from rfl, r3, show zV X (.ref x) = zE X x from rfl, x3]
  have he := zws_at (X := X) (cA := cA) r1 r2
  rw [zcell_q rfl hk] at he
  have hv := zws_at (X := X) (cA := cA) x1 x2
  rw [zcell_o hx] at hv
  have hA := g1 r r1 r2 ht
  rw [zaty_q hk] at hA
  have hlt := zin_vp hi
  obtain ⟨r', hr', cellV, q1, q2, q3, -⟩ := g2 _ _ hv
  have hci : (sK σ r).1 - 40 < 12 := (List.getElem?_eq_some_iff.mp hr').1
  have hcls := ((zKof C).1 _ _ (zcls_at _ hci)).2
  obtain ⟨kA, comp, k1, k2, k3, -⟩ := hA.2
  have hcomp : comp = D.1 ((sK σ r).1 - 40) := Option.some.inj (k3.symm.trans hcls.1)
  subst hcomp
  obtain ⟨kC, hkC, -⟩ := hcls.2
  refine W.aast C.1 C.2.1 (g2 _ _ he) (fun q h => by cases h) (fun h => by cases h) k1 k2 rfl hkC ⟨fun q => hlt (Or.inl q), by show _ < (arrV _ _ _).slots.size; rw [arrV_size]; exact Nat.not_le.mp fun q => hlt (Or.inr q)⟩ q1 (fun q h => by rw [q3] at h; cases h) (by rw [q2]; exact hkC) (by rw [q2]; exact va_assign hcls) rfl rfl hd fun H1 e1 e2 e3 => ?_
  refine k H1 _ cells slots lr (zSm_write (r := r) g1 g2 g3 g4 g5 g6 r1 r2 rfl (fun _ _ _ => rfl) (fun _ _ _ => rfl) (fun a ha i => if_neg (fun z => ha z.1)) ?_ e2 e3) (h2.put e2 e3 (Nat.le_add_right _ _)) h3 h4 h5 h6 h7 h8
  rw [zcell_q (σ := setR σ r i.toNatClampNeg x) rfl hk]
  show H1[X.1 + (r - 1)]? = some (vp_cell _ _)
  rw [e1, vp_cell_q, vp_cell_q, arrV_store]
  congr 2
  funext q
  show updV (fun j => va_rf (zEo X (sR σ r j))) i.toNatClampNeg (.ref (X.1 + (x - 1))) q = va_rf (zEo X (if r = r ∧ q = i.toNatClampNeg then x else sR σ r q))
  by_cases hq : q = i.toNatClampNeg
  · subst hq
    rw [if_pos ⟨rfl, rfl⟩, show va_rf (zEo X x) = zE X x from rfl, x3]
    simp [updV]
  · simp [updV, hq]
end ZA
