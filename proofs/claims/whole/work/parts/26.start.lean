/-! THE LAW'S START: from the claim's premises to the small machine. -/
def zFl : List Cond := flatC (Jvm.Cond.and given_1 narrow_1)
def zTm (i : Nat) : Term := .string (zcn (zWq.getD i (0, 0, 0)).1) (zWq.getD i (0, 0, 0)).2.1
def zBs (i : Nat) : Nat := [45, 160, 166, 174, 183, 193, 203, 215, 226].getD i 0
theorem zf_ex : ∀ i, i < 9 → zFl[zBs i]? = some (.exactly (zTm i) "java/lang/String") := by decide +kernel
theorem zf_co : ∀ i, i < 9 → zFl[zBs i + 1]? = some (.eq (.field (zTm i) "java/lang/String" "coder" "B") (.int 0)) := by decide +kernel
theorem zf_ar : ∀ i, i < 9 → zFl[zBs i + 2]? = some (.arrayOf (.field (zTm i) "java/lang/String" "value" "[B") .byte) := by decide +kernel
theorem zf_le : ∀ i, i < 9 → zFl[zBs i + 3]? = some (.eq (.length (.field (zTm i) "java/lang/String" "value" "[B")) (.int (Int32.ofNat (zlen.getD i 0)))) := by decide +kernel
theorem zf_el : ∀ i, i < 9 → ∀ j, j < zlen.getD i 0 → zFl[zBs i + 4 + j]? = some (.eq (.elem (.field (zTm i) "java/lang/String" "value" "[B") (.int (Int32.ofNat j))) (.int ((zbyt.getD i []).getD j 0))) := by decide +kernel
theorem zf_ne : ∀ j, j < 9 → ∀ i, i < j → zFl[zBs j + 4 + zlen.getD j 0 + i]? = some (.not (.eq (zTm i) (zTm j))) := by decide +kernel
theorem zf_cs : zFl[4]? = some (.eq (.static "java/lang/String" "COMPACT_STRINGS" "Z") (.int 1)) := by decide +kernel
theorem zf_sf : zFl[5]? = some (.isRef (.static "jdk/internal/util/Preconditions" "SIOOBE_FORMATTER" "Ljava/util/function/BiFunction;")) := by decide +kernel
theorem zl_small : ∀ i, i < 9 → zlen.getD i 0 < 2 ^ 31 := by decide +kernel
theorem zstr {args : Array Value} {s : State} (h : (Jvm.Cond.and given_1 narrow_1).before args s = true) : ∃ adK adV : Nat → Nat, vk_S 9 zlen zbyt adK adV (fun q => s.heap.size ≤ q) s s.heap ∧ ∀ i : Nat, i < 9 → (zTm i).eval args s none [] s = some (.ref (adK i)) := by
  have hs : ∀ w ∈ zFl, w.before args s = true := flat_of_before _ h
  refine vk_Sof (tm := zTm) zl_small (fun i hi => hs _ (List.mem_of_getElem? (zf_ex i hi))) (fun i hi => hs _ (List.mem_of_getElem? (zf_co i hi))) (fun i hi => hs _ (List.mem_of_getElem? (zf_ar i hi))) (fun i hi => hs _ (List.mem_of_getElem? (zf_le i hi))) (fun i hi j hj => hs _ (List.mem_of_getElem? (zf_el i hi j hj))) (fun i j hi hj hij => ?_) (fun a ha hA => absurd ha (Nat.not_lt.mpr hA))
  rcases Nat.lt_or_gt_of_ne hij with h1 | h1
  · exact Or.inl (hs _ (List.mem_of_getElem? (zf_ne j hj i h1)))
  · exact Or.inr (hs _ (List.mem_of_getElem? (zf_ne i hi j h1)))
theorem zWb_all : ∀ c, c < 12 → zWb.contains c = true := by decide +kernel
theorem zclasses {args : Array Value} {s : State} (hts : ∀ w ∈ lw_tbl, w.before args s = true) : ∃ D : va_G, ∀ (c : Nat) (q : vw_C), zcls[c]? = some q → u_Kn s q.1 q.2.1 q.2.2 (D.1 c) (D.2 c) := by
  have h0 : ∀ c : Nat, ∃ d : ClassId × (Nat → Nat), c < 12 → u_Kn s (zcn c) (zTf c) (znf c) d.1 d.2 := by
    intro c
    by_cases hc : c < 12
    · obtain ⟨cC, iS, h⟩ := u_known (ws := zTB) (fun w hw => hts w (List.mem_filter.mp hw).1) (zin_ws c hc) (hts _ (zWb_in c (zcont (zWb_all c hc))))
      exact ⟨(cC, iS), fun _ => h⟩
    · exact ⟨(0, fun _ => 0), fun h => absurd h hc⟩
  obtain ⟨f, hf⟩ := Classical.axiomOfChoice h0
  refine ⟨(fun c => (f c).1, fun c => (f c).2), fun c q hq => ?_⟩
  have hc : c < 12 := (List.getElem?_eq_some_iff.mp hq).1
  have e : ∀ c, c < 12 → zcls[c]? = some (zcn c, zTf c, znf c) := by
    intro c hc
    match c, hc with
    | 0, _ => rfl
    | 1, _ => rfl
    | 2, _ => rfl
    | 3, _ => rfl
    | 4, _ => rfl
    | 5, _ => rfl
    | 6, _ => rfl
    | 7, _ => rfl
    | 8, _ => rfl
    | 9, _ => rfl
    | 10, _ => rfl
    | 11, _ => rfl
  rw [e c hc] at hq
  cases hq
  exact hf c hc
theorem zstrR : ∀ q ∈ zWq, ∃ tx, Cond.stringRef (zcn q.1) q.2.1 tx ∈ lw_tbl := List.forall_mem_cons.mpr ⟨⟨_, tb_1 (List.mem_of_getElem? (i := 216) rfl)⟩, List.forall_mem_cons.mpr ⟨⟨_, tb_4 (List.mem_of_getElem? (i := 174) rfl)⟩, List.forall_mem_cons.mpr ⟨⟨_, tb_4 (List.mem_of_getElem? (i := 175) rfl)⟩, List.forall_mem_cons.mpr ⟨⟨_, tb_4 (List.mem_of_getElem? (i := 176) rfl)⟩, List.forall_mem_cons.mpr ⟨⟨_, tb_4 (List.mem_of_getElem? (i := 177) rfl)⟩, List.forall_mem_cons.mpr ⟨⟨_, tb_4 (List.mem_of_getElem? (i := 178) rfl)⟩, List.forall_mem_cons.mpr ⟨⟨_, tb_4 (List.mem_of_getElem? (i := 179) rfl)⟩, List.forall_mem_cons.mpr ⟨⟨_, tb_4 (List.mem_of_getElem? (i := 180) rfl)⟩, List.forall_mem_cons.mpr ⟨⟨_, tb_8 (List.mem_of_getElem? (i := 59) rfl)⟩, fun _ h => absurd h List.not_mem_nil⟩⟩⟩⟩⟩⟩⟩⟩⟩
theorem zWq_tm : ∀ q ∈ zWq, q.2.2 < 9 ∧ zWq.getD q.2.2 (0, 0, 0) = q := by decide +kernel
theorem zAOin : ∀ ci ∈ [1, 5, 8], Cond.arrayOver (.object (zcn ci)) ∈ lw_tbl := List.forall_mem_cons.mpr ⟨tb_1 (List.mem_of_getElem? (i := 209) rfl), List.forall_mem_cons.mpr ⟨tb_1 (List.mem_of_getElem? (i := 208) rfl), List.forall_mem_cons.mpr ⟨tb_1 (List.mem_of_getElem? (i := 185) rfl), fun _ h => absurd h List.not_mem_nil⟩⟩⟩
/-- the small machine's start: the script is cell 0 -/
def z0 (L : Nat) (xs : Nat → Int32) : MS := ([(6, L)], fun _ j => xs j, fun _ _ => 0, fun _ _ => zNul)
theorem zSm0 {X : zXe} {D : va_G} {L : Nat} {xs : Nat → Int32} {s : State} (h : s.heap.size = X.1) : zSm X D L xs (z0 L xs) s s.heap := by
  refine ⟨fun _ => 0, ?_, ?_, ?_, Nat.le_refl _, rfl, fun j _ => rfl, ?_⟩
  · intro r h1 h2
    have : (z0 L xs).1.length = 1 := rfl
    omega
  · intro k q hq
    cases hq
  · exact h
  · intro r h1
    obtain ⟨k, rfl⟩ : ∃ k, r = k + 1 := ⟨r - 1, by omega⟩
    show ([(6, L)].getD (k + 1) (99, 0)).1 ≠ 6
    exact fun h => by cases h
theorem zforget {s t : State} {o : Outcome} {Ls : List Loc} {mc ms : Nat} (h : FrameEnd s o t Ls mc ms) (hf : ∀ q ∈ Ls, s.heap.size ≤ q.base) (hc : mc ≤ 600000) (hs : ms ≤ 7302249) : Framed s o t [] 600000 7302249 := by
  obtain ⟨h1, h2, h3, h4, h5, h6, h7, h8⟩ := h
  refine ⟨h1, h2, h3, h4, Nat.le_trans h5 (Nat.add_le_add_left hc _), h6, Nat.le_trans h7 hs, ?_⟩
  intro a c ha
  obtain ⟨c', g1, g2, g3, g4⟩ := h8 a c ha
  refine ⟨c', g1, g2, g3, fun i _ => g4 i (fun hm => ?_)⟩
  have := hf _ hm
  have hl := (Array.getElem?_eq_some_iff.mp ha).1
  exact absurd hl (Nat.not_lt.mpr this)
