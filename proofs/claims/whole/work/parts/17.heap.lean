theorem zcls_at : ∀ ci, ci < 12 → zcls[ci]? = some (zcn ci, zTf ci, znf ci) := by
  intro ci h
  rcases (show ci = 0 ∨ ci = 1 ∨ ci = 2 ∨ ci = 3 ∨ ci = 4 ∨ ci = 5 ∨ ci = 6 ∨ ci = 7 ∨ ci = 8 ∨ ci = 9 ∨ ci = 10 ∨ ci = 11 by omega) with rfl | rfl | rfl | rfl | rfl | rfl | rfl | rfl | rfl | rfl | rfl | rfl <;> rfl
theorem zty_ok : ∀ ci, ci < 12 → ∀ k, k < znf ci → parseFieldDescriptor (zTf ci k).2.2.1 = some (zyt ci k) := by decide +kernel
theorem znm_ok : ∀ ci, ci < 12 → ∀ a, a < znf ci → ∀ b, b < znf ci → a ≠ b → (zTf ci a).2.1 ≠ (zTf ci b).2.1 := by decide +kernel
theorem zdc_ok : ∀ ci, ci < 12 → ∀ k, k < znf ci → (zTf ci k).1 = zcn ci := by decide +kernel
def zkt (t : Nat) (y : FieldType) : Bool := match t, y with
  | 0, .int => true
  | 1, .long => true
  | 3, .boolean => true
  | 2, .object _ => true
  | 2, .array _ => true
  | _, _ => false
theorem zkt_ok : ∀ ci, ci < 12 → ∀ k, k < znf ci → zkt (zft ci k) (zyt ci k) = true := by decide +kernel
theorem zWu_all : ∀ ci, ci < 12 → ∀ k, k < znf ci → zWu.contains (ci, k) = true := by decide +kernel
theorem zin_ws : ∀ ci, ci < 12 → ∀ w ∈ u_ws (zcn ci) (zTf ci) (znf ci), w ∈ zTB := by
  intro ci h w hw
  obtain ⟨k, hk, rfl⟩ := List.mem_map.mp hw
  rw [List.mem_range] at hk
  refine zTB_of (zWu_in _ (zcont (zWu_all ci h k hk))) ?_
  unfold u_lay
  split <;> rfl
theorem zin_vp {i : Int32} {n : Nat} (h : zIn i n = true) : vp_in i n := by
  unfold zIn at h
  rw [Bool.and_eq_true, Bool.not_eq_true', decide_eq_false_iff_not, decide_eq_true_eq] at h
  rintro (q | q)
  · exact h.1 q
  · exact absurd h.2 (by omega)
theorem zcell_o {X : zXe} {cA : Nat → ClassId} {σ : MS} {r a : Nat} (h : sK σ r = (0, a)) : zcell X cA σ r = .inr (a, (List.range (znf a)).map (zfv X σ r a)) := by
  unfold zcell
  rw [h]
  rfl
theorem zcell_i {X : zXe} {cA : Nat → ClassId} {σ : MS} {r t : Nat} (h : (sK σ r).1 = t) (ht : t = 1 ∨ t = 3) : zcell X cA σ r = .inl (cA t, (sK σ r).2, .inl (sI σ r)) := by
  unfold zcell
  rw [h]
  rcases ht with rfl | rfl <;> rfl
theorem zcell_l {X : zXe} {cA : Nat → ClassId} {σ : MS} {r : Nat} (h : (sK σ r).1 = 2) : zcell X cA σ r = .inl (cA 2, (sK σ r).2, .inr (.inl (sL σ r))) := by
  unfold zcell
  rw [h]
  rfl
theorem zcell_q {X : zXe} {cA : Nat → ClassId} {σ : MS} {r t : Nat} (h : (sK σ r).1 = t) (ht : 40 ≤ t) : zcell X cA σ r = .inl (cA t, (sK σ r).2, .inr (.inr (.inr (.inr (fun j => zEo X (sR σ r j)))))) := by
  unfold zcell
  rw [h, if_neg (by omega), if_neg (by omega), if_neg (by omega)]
/-- a cell is written -/
theorem zSm_write {X : zXe} {D : va_G} {L : Nat} {xs : Nat → Int32} {σ τ : MS} {s : State} {H H1 : Heap} {cA : Nat → ClassId} {r : Nat} (hAK : zAK s cA σ) (hP : va_P D zcls (zws X cA σ) H) (hsz : H.size = X.1 + (σ.1.length - 1)) (hlen : 1 ≤ σ.1.length) (h0 : sK σ 0 = (6, L)) (hx : zScr L xs σ)
    (h1 : 1 ≤ r) (h2 : r < σ.1.length) (hl : τ.1 = σ.1) (hI : ∀ a, a ≠ r → ∀ i, sI τ a i = sI σ a i) (hL : ∀ a, a ≠ r → ∀ i, sL τ a i = sL σ a i) (hR : ∀ a, a ≠ r → ∀ i, sR τ a i = sR σ a i)
    (he : va_at D zcls (X.1 + (r - 1), zcell X cA τ r) H1) (z : H1.size = H.size) (oq : ∀ q : Nat, q ≠ X.1 + (r - 1) → H1[q]? = H[q]?) : zSm X D L xs τ s H1 := by
  have hk : ∀ a, sK τ a = sK σ a := fun a => by unfold sK; rw [hl]
  refine ⟨cA, fun q q1 q2 q3 => ?_, ?_, by rw [z, hsz, hl], by rw [hl]; exact hlen, by rw [hk]; exact h0, ⟨fun j hj => by rw [hI 0 (by omega) j]; exact hx.1 j hj, fun q hq => by rw [hk]; exact hx.2 q hq⟩⟩
  · rw [hk] at q3 ⊢
    exact hAK q q1 (by rw [← hl]; exact q2) q3
  · rw [zws_set h1 hl hI hL hR]
    exact hP.set zws_D (zws_at h1 h2) he oq
section ZH
variable {p : Program} {l : Launch} {e : Env} {R : Room} {s : State} {m : MethodId} {args : Array Value} {below : List Frame} {meth : Method} {c : Code} {Q : State → Prop} {X : zXe} {D : va_G} {L : Nat} {xs : Nat → Int32} {PS : State → Prop} {mid N NS mc ms : Nat} {pc : Nat} {ls st : List Value} {σ τ : MS}
theorem zKof (C : zCx X D L xs PS mid N NS mc ms p R s m args meth c) : va_K D zcls [] s := ⟨C.2.2.2.2.2.2.2.2.1.1, fun k q h => by simp at h⟩
theorem zKof1 (C : zCx X D L xs PS mid N NS mc ms p R s m args meth c) {cA : ClassId} {ty : FieldType} (h : ArrOfT s cA ty ∧ va_RA s cA ty) : va_K D zcls [(cA, ty)] s := ⟨C.2.2.2.2.2.2.2.2.1.1, fun k q hk => by
  cases k with
  | zero => cases hk; exact h
  | succ k => simp at hk⟩
/-- an address that is a cell of the heap -/
theorem zcellref (C : zCx X D L xs PS mid N NS mc ms p R s m args meth c) {r : Nat} (h6 : σ.1.length ≤ N) (h0 : sK σ 0 = (6, L)) (h : (sK σ r).1 ≠ 99) (h9 : (sK σ r).1 ≠ 6) : 1 ≤ r ∧ r < σ.1.length ∧ zE X r = .ref (X.1 + (r - 1)) := by
  have hlt := sK_lt h
  have hr : 1 ≤ r := by
    rcases Nat.eq_zero_or_pos r with q | q
    · subst q; rw [h0] at h9; exact absurd rfl h9
    · exact q
  exact ⟨hr, hlt, zE_in hr (by have := C.2.2.2.2.2.2.2.2.2.1; omega)⟩
theorem s_get (C : zCx X D L xs PS mid N NS mc ms p R s m args meth c) {v r a b : Nat} (hd : decode (zby mid) pc = .ok (.getfield v, 3)) (hk : sK σ r = (0, a)) (hl : (zow mid, v, a, b) ∈ zWf) (hb : b < znf a) (ha : a < 12) {w : Value} (hw : zV X w = zfv X σ r a b) (hg : zgd w = true)
    (k : zW p l e R s m args below meth c Q X D L xs mid N NS mc ms (pc + 3) ls (w :: st) σ) : zW p l e R s m args below meth c Q X D L xs mid N NS mc ms pc ls (.ref r :: st) σ := by
  intro H locs cells slots lr h1 h2 h3 h4 h5 h6 h7 h8
  obtain ⟨cA, g1, g2, g3, g4, g5, g6⟩ := id h1
  obtain ⟨r1, r2, r3⟩ := zcellref C h6 g5 (by rw [hk]; exact (by decide : (0 : Nat) ≠ 99)) (by rw [hk]; exact (by decide : (0 : Nat) ≠ 6))
  rw [List.map_cons, show zV X (.ref r) = zE X r from rfl, r3]
  have he := zws_at (X := X) (cA := cA) r1 r2
  rw [zcell_o hk] at he
  refine va_get (D := D) (ci := a) (C := zcn a) (T := zTf a) (N := znf a) (ref := zcn a) C.1 C.2.1 C.2.2.2.2.2.1 (zin_ws a ha) C.2.2.2.2.1 (zKof C) g2 (r - 1) he (zcls_at a ha) b hb (C.2.2.2.2.2.1 _ (zTB_of (zWf_in _ hl) rfl)) (by rw [zdc_ok a ha b hb]; exact fun _ h => h) (v := zfv X σ r a b) (by rw [List.getElem?_map, List.getElem?_range hb]; rfl) hd ?_
  have k1 := k H locs cells slots lr h1 h2 h3 h4 h5 h6 h7 (by rw [List.all_cons, hg]; exact h8)
  rw [List.map_cons, hw] at k1
  exact k1
theorem s_put (C : zCx X D L xs PS mid N NS mc ms p R s m args meth c) {v r a b : Nat} {w : Value} (hd : decode (zby mid) pc = .ok (.putfield v, 3)) (hk : sK σ r = (0, a)) (hl : (zow mid, v, a, b) ∈ zWf) (hb : b < znf a) (ha : a < 12)
    (hf : (zTf a b).2.2.2 = false ∨ ((zTf a b).2.2.2 = true ∧ mid ∈ zIni ∧ zow mid = a)) (hn : narrow (zyt a b) (zV X w) = zV X w) (hfit : fits (zyt a b) (zV X w) = true)
    (ht : τ.1 = σ.1) (hI : ∀ a, a ≠ r → ∀ i, sI τ a i = sI σ a i) (hL : ∀ a, a ≠ r → ∀ i, sL τ a i = sL σ a i) (hR : ∀ a, a ≠ r → ∀ i, sR τ a i = sR σ a i) (hv : ∀ j, zfv X τ r a j = if j = b then zV X w else zfv X σ r a j)
    (k : zW p l e R s m args below meth c Q X D L xs mid N NS mc ms (pc + 3) ls st τ) : zW p l e R s m args below meth c Q X D L xs mid N NS mc ms pc ls (w :: .ref r :: st) σ := by
  intro H locs cells slots lr h1 h2 h3 h4 h5 h6 h7 h8
  obtain ⟨cA, g1, g2, g3, g4, g5, g6⟩ := id h1
  obtain ⟨r1, r2, r3⟩ := zcellref C h6 g5 (by rw [hk]; exact (by decide : (0 : Nat) ≠ 99)) (by rw [hk]; exact (by decide : (0 : Nat) ≠ 6))
  rw [List.map_cons, List.map_cons, show zV X (.ref r) = zE X r from rfl, r3]
  have hts := C.2.2.2.2.2.1
  have hin := zin_ws a ha
  have hK := zKof C
  have hc := zcls_at a ha
  have he := zws_at (X := X) (cA := cA) r1 r2
  rw [zcell_o hk] at he
  have hap := va_apart (own := zcn a) hts hin (zyt a) (zty_ok a ha) (znm_ok a ha) hK hc
  obtain ⟨q0, hq, cell, q1, q2, q3, q4⟩ := g2 _ _ he
  have hr0 : q0 = (zcn a, zTf a, znf a) := Option.some.inj (hq.symm.trans hc)
  subst hr0
  obtain ⟨hS, hfc, kC, hkC, hkind⟩ := hK.1 a _ hc
  obtain ⟨cf, kf, fi, f, hi, hsl⟩ := hS b hb
  have hlay := hts _ (hin _ (u_in_lay hb))
  have hst := (u_facts hfc hkC (u_lays hts hin hb) hi).1
  have hlink := hts _ (zTB_of (zWf_in _ hl) rfl)
  have hi2 : s.fieldFound? (zcn a) (zTf a b).2.1 (zTf a b).2.2.1 = some (cf, kf, fi, f) := by rw [← zdc_ok a ha b hb]; exact hi
  have hz : zsl τ = zsl σ := by unfold zsl; rw [ht]
  have hkt : sK τ r = (0, a) := by unfold sK at hk ⊢; rw [ht]; exact hk
  rw [List.all_cons, List.all_cons, Bool.and_eq_true, Bool.and_eq_true] at h8
  have fin : ∀ H' : Heap, H'[X.1 + (r - 1)]? = some (cell.setSlot f.slot (zV X w)) → H'.size = H.size → (∀ q, q ≠ X.1 + (r - 1) → H'[q]? = H[q]?) → W p l e R s m args below meth c H' (locs ++ [⟨X.1 + (r - 1), f.slot⟩]) cells slots Q (F0 m (pc + 3) lr (st.map (zV X))) := by
    intro H' e1 e2 e3
    refine k H' _ cells slots lr (zSm_write (r := r) g1 g2 g3 g4 g5 g6 r1 r2 ht hI hL hR ?_ e2 e3) (h2.put e2 e3 (Nat.le_add_right _ _)) h3 (by rw [ht]; exact h4) (by rw [hz]; exact h5) (by rw [ht]; exact h6) (by rw [hz]; exact h7) h8.2.2
    rw [zcell_o hkt]
    refine ⟨_, hc, t_OB.to (V := updV (vp_V ((List.range (znf a)).map (zfv X σ r a))) b (zV X w)) ⟨_, e1, q2, q3, ?_⟩ (fun j hj => ?_)⟩
    · rw [hsl]
      exact t_set q4 hap hb (zV X w)
    · rw [vp_updV_set (by rw [List.length_map, List.length_range]; exact hb)]
      unfold vp_V
      rw [List.getD_eq_getElem?_getD, List.getD_eq_getElem?_getD]
      congr 1
      rw [List.getElem?_map, List.getElem?_range hj, Option.map_some, hv j]
      by_cases hjb : j = b
      · subst hjb
        rw [if_pos rfl, List.getElem?_set_self (by rw [List.length_map, List.length_range]; exact hb)]
      · rw [if_neg hjb, List.getElem?_set_ne (Ne.symm hjb), List.getElem?_map, List.getElem?_range hj, Option.map_some]
  unfold u_lay at hlay
  rcases hf with hf | ⟨hf, hin1, hin2⟩
  · rw [if_neg (by rw [hf]; decide)] at hlay
    have h9 := u_store hfc hkC hkind hlay hi (zty_ok a ha b hb) hn hfit
    exact W.putK C.1 C.2.1 (f := f) ⟨C.2.2.2.2.1, hlink, ⟨_, _, _, hi2⟩, hst⟩ (by rw [q2]; exact h9) q1 q3 (by rw [hsl]; exact k2_hasslot (q4 b hb)) rfl rfl hd fin
  · rw [if_pos hf] at hlay
    have hcf : m.cls = cf := by
      obtain ⟨_, _, c', _, _, _, -, -, hf', -, -, -, hown2, -⟩ := Cond.laysFinal_spec hlay
      have e1 : c' = cf := by have := hi.symm.trans hf'; simp at this; exact this.1.symm
      rw [zdc_ok a ha b hb, ← hin2] at hown2
      rw [← e1]
      exact Option.some.inj (C.2.2.2.2.1.symm.trans hown2)
    have h9 := u_fits hfc hkC hkind (Or.inr hlay) hi (zty_ok a ha b hb) hn hfit
    exact W.putFinK C.1 C.2.1 C.2.2.2.2.1 hlink hi2 hst hcf (C.2.2.2.2.2.2.2.1 hin1) (by rw [q2]; exact h9) q1 q3 (by rw [hsl]; exact k2_hasslot (q4 b hb)) rfl rfl hd fin
end ZH
