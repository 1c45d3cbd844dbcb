theorem zNew_len (σ : MS) (k : Nat × Nat) : (zNew σ k).1.length = σ.1.length + 1 := by show (σ.1 ++ [k]).length = _; rw [List.length_append]; rfl
theorem zNew_K (σ : MS) (k : Nat × Nat) {r : Nat} (h : r < σ.1.length) : sK (zNew σ k) r = sK σ r := by
  show (σ.1 ++ [k]).getD r _ = σ.1.getD r _
  rw [List.getD_eq_getElem?_getD, List.getD_eq_getElem?_getD, List.getElem?_append_left h]
theorem zNew_Kl (σ : MS) (k : Nat × Nat) : sK (zNew σ k) σ.1.length = k := by
  show (σ.1 ++ [k]).getD σ.1.length _ = k
  rw [List.getD_eq_getElem?_getD, List.getElem?_append_right (Nat.le_refl _), Nat.sub_self]
  rfl
theorem zNew_sl (σ : MS) (k : Nat × Nat) : zsl (zNew σ k) = zsl σ + zsz k := by
  show ((σ.1 ++ [k]).map zsz).sum = _
  rw [List.map_append, List.sum_append]
  simp [zsl]
theorem zcell_cong {X : zXe} {cA cB : Nat → ClassId} {σ : MS} {r : Nat} (h : (sK σ r).1 ≠ 0 → cA (sK σ r).1 = cB (sK σ r).1) : zcell X cA σ r = zcell X cB σ r := by
  unfold zcell
  by_cases h0 : (sK σ r).1 = 0
  · rw [if_pos h0, if_pos h0]
  · rw [if_neg h0, if_neg h0]
    by_cases h2 : (sK σ r).1 = 2
    · rw [if_pos h2, if_pos h2, ← h2, h h0]
    · rw [if_neg h2, if_neg h2, h h0]
theorem zSm_new {X : zXe} {D : va_G} {L : Nat} {xs : Nat → Int32} {σ : MS} {s : State} {H H1 : Heap} {cA cB : Nat → ClassId} {k : Nat × Nat} (hP : va_P D zcls (zws X cA σ) H) (hsz : H.size = X.1 + (σ.1.length - 1)) (hlen : 1 ≤ σ.1.length) (h0 : sK σ 0 = (6, L)) (hx : zScr L xs σ) (hk6 : k.1 ≠ 6)
    (hB : ∀ r, 1 ≤ r → r < σ.1.length → zcell X cB σ r = zcell X cA σ r) (hAK : zAK s cB (zNew σ k)) (he : va_at D zcls (X.1 + (σ.1.length - 1), zcell X cB (zNew σ k) σ.1.length) H1) (z : H1.size = H.size + 1) (oq : ∀ q : Nat, q < H.size → H1[q]? = H[q]?) : zSm X D L xs (zNew σ k) s H1 := by
  have hw : zws X cB σ = zws X cA σ := by
    unfold zws
    refine List.map_congr_left fun j hj => ?_
    rw [List.mem_range] at hj
    rw [hB (j + 1) (by omega) (by omega)]
  refine ⟨cB, hAK, ?_, by rw [z, hsz, zNew_len]; omega, by rw [zNew_len]; omega, by rw [zNew_K σ k (by omega)]; exact h0, ⟨fun j hj => ?_, fun q hq => ?_⟩⟩
  · rw [zws_new hlen, hw]
    refine va_P.app (hP.kept (fun j q hq => oq _ (hP j q hq).lt)) (fun j q hq => ?_)
    have hz : j < 1 := (List.getElem?_eq_some_iff.mp hq).1
    rw [show j = 0 by omega] at hq
    cases hq
    exact he
  · show (if (0 : Nat) = σ.1.length then (0 : Int32) else sI σ 0 j) = xs j
    rw [if_neg (by omega)]
    exact hx.1 j hj
  · rcases Nat.lt_trichotomy q σ.1.length with z | z | z
    · rw [zNew_K σ k z]; exact hx.2 q hq
    · subst z; rw [zNew_Kl]; exact hk6
    · have : sK (zNew σ k) q = (99, 0) := by
        unfold sK
        rw [List.getD_eq_getElem?_getD, List.getElem?_eq_none (by rw [zNew_len]; omega)]
        rfl
      rw [this]
      exact (by decide : (99 : Nat) ≠ 6)
theorem zE_nul {X : zXe} : zE X zNul = .null := rfl
/-- a class of arrays that is known already, or is known from now on -/
theorem zAK_new {X : zXe} {σ : MS} {s : State} {cA : Nat → ClassId} {t n : Nat} {cN : ClassId} (ht : zarr t) (h : zAK s cA σ) (hN : ArrOfT s cN (zaty t) ∧ va_RA s cN (zaty t)) (hu : ∀ c1 c2 : ClassId, va_RA s c1 (zaty t) → va_RA s c2 (zaty t) → c1 = c2) :
    zAK s (fun q => if q = t then cN else cA q) (zNew σ (t, n)) ∧ ∀ r, 1 ≤ r → r < σ.1.length → zcell X (fun q => if q = t then cN else cA q) σ r = zcell X cA σ r ∨ ¬ zarr (sK σ r).1 ∧ (sK σ r).1 ≠ t := by
  refine ⟨fun r h1 h2 h3 => ?_, fun r h1 h2 => ?_⟩
  · rw [zNew_len] at h2
    by_cases hr : r = σ.1.length
    · subst hr
      rw [zNew_Kl]
      dsimp only
      rw [if_pos rfl]
      exact hN
    · rw [zNew_K σ _ (by omega)] at h3 ⊢
      dsimp only
      by_cases hq : (sK σ r).1 = t
      · rw [if_pos hq, hq]
        exact hN
      · rw [if_neg hq]
        exact h r h1 (by omega) h3
  · by_cases hq : (sK σ r).1 = t
    · left
      refine zcell_cong fun _ => ?_
      rw [if_pos hq, hq]
      have h3 := (h r h1 h2 (by rw [hq]; exact ht)).2
      rw [hq] at h3
      exact hu _ _ hN.2 h3
    · left
      refine zcell_cong fun _ => ?_
      rw [if_neg hq]
theorem zRA_one {s : State} {ty : FieldType} (c1 c2 : ClassId) (h1 : va_RA s c1 ty) (h2 : va_RA s c2 ty) : c1 = c2 := by
  cases ty with
  | object C =>
    obtain ⟨_, _, _, _, _, a⟩ := h1
    obtain ⟨_, _, _, _, _, b⟩ := h2
    exact Option.some.inj (a.symm.trans b)
  | _ => exact Option.some.inj ((show s.vm.findClass _ = some c1 from h1).symm.trans h2)
theorem zAC_1 : Cond.arrayClass .int ∈ lw_tbl := tb_1 (List.mem_of_getElem? (i := 144) rfl)
theorem zAC_2 : Cond.arrayClass .long ∈ lw_tbl := tb_1 (List.mem_of_getElem? (i := 145) rfl)
section ZN
variable {p : Program} {l : Launch} {e : Env} {R : Room} {s : State} {m : MethodId} {args : Array Value} {below : List Frame} {meth : Method} {c : Code} {Q : State → Prop} {X : zXe} {D : va_G} {L : Nat} {xs : Nat → Int32} {PS : State → Prop} {mid N NS mc ms : Nat} {pc : Nat} {ls st : List Value} {σ τ : MS}
theorem s_new (C : zCx X D L xs PS mid N NS mc ms p R s m args meth c) {v a : Nat} (hd : decode (zby mid) pc = .ok (.new v, 3)) (hl : (zow mid, v, a) ∈ zWl) (hb : a ∈ zWb) (hk : a ∈ zWk) (ha : a < 12) (hN : (zNew σ (0, a)).1.length ≤ N) (hNS : zsl (zNew σ (0, a)) ≤ NS)
    (k : zW p l e R s m args below meth c Q X D L xs mid N NS mc ms (pc + 3) ls (.ref σ.1.length :: st) (zNew σ (0, a))) : zW p l e R s m args below meth c Q X D L xs mid N NS mc ms pc ls st σ := by
  intro H locs cells slots lr h1 h2 h3 h4 h5 h6 h7 h8
  obtain ⟨cA, g1, g2, g3, g4, g5, g6⟩ := id h1
  have hts := C.2.2.2.2.2.1
  have hKn := (zKof C).1 a _ (zcls_at a ha)
  have hln := zNew_len σ (0, a)
  have hsn := zNew_sl σ (0, a)
  have hzz : zsz (0, a) = znf a := rfl
  have hcap := C.2.2.2.2.2.2.2.2.2.1
  have hmc := C.2.2.2.2.2.2.2.2.2.2.1
  have hms := C.2.2.2.2.2.2.2.2.2.2.2.1
  refine W.newcK (n := znf a) (C := zcn a) C.1 C.2.1 C.2.2.2.2.1 (hts _ (zTB_of (zWl_in _ hl) rfl)) (hts _ (zTB_of (zWb_in _ hb) rfl)) (hts _ (zTB_of (zWk_in _ hk) rfl)) rfl hd (by omega) (by omega) hKn.2.1 rfl fun H1 kC hkC e1 e2 e3 => ?_
  have k1 := k H1 locs (cells + 1) (slots + znf a) lr (zSm_new g2 g3 g4 g5 g6 (by exact (by decide : (0 : Nat) ≠ 6)) (fun _ _ _ => rfl) (cB := cA) ?_ ?_ e2 e3) ⟨Nat.le_trans h2.1 (by omega), fun q q1 q2 => (e3 q (Nat.lt_of_lt_of_le q1 h2.1)).trans (h2.2.1 q q1 q2), h2.2.2⟩ h3 (by omega) (by omega) hN hNS h8
  · rw [List.map_cons, show zV X (.ref σ.1.length) = .ref H.size by rw [g3]; exact zE_in g4 (by omega)] at k1
    exact k1
  · intro r r1 r2 r3
    by_cases hr : r = σ.1.length
    · subst hr
      rw [zNew_Kl] at r3
      exfalso
      rcases r3 with z | z
      · exact absurd z.1 (by show ¬ (1 : Nat) ≤ 0; decide)
      · exact absurd z.1 (by show ¬ (40 : Nat) ≤ 0; decide)
    · rw [zNew_K σ _ (by omega)] at r3 ⊢
      exact g1 r r1 (by omega) r3
  · rw [← g3, zcell_o (zNew_Kl σ (0, a))]
    refine ⟨_, zcls_at a ha, (u_born (zyt a) hts (zin_ws a ha) hKn hkC e1 (zty_ok a ha)).to (fun j hj => ?_)⟩
    unfold vp_V
    rw [List.getD_eq_getElem?_getD, List.getElem?_map, List.getElem?_range hj, Option.map_some, Option.getD_some]
    have hq := zkt_ok a ha j hj
    have eI : sI (zNew σ (0, a)) σ.1.length j = 0 := if_pos rfl
    have eL : sL (zNew σ (0, a)) σ.1.length j = 0 := if_pos rfl
    have eR : sR (zNew σ (0, a)) σ.1.length j = zNul := if_pos rfl
    unfold zfv
    rw [eI, eL, eR, zE_nul]
    generalize zft a j = t at hq
    generalize zyt a j = y at hq
    unfold zkt at hq
    split at hq <;> first | rfl | cases hq
end ZN
