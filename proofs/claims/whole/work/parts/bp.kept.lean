/-! WHAT EVERY CALL LEAVES RIGHT -/
section KEP
variable {s : Sx} {A A' : Ofc} {E : Option (Dy × Pg 4)} {v : Int32} {f : Fr}
def Sam (A A' : Ofc) : Prop := A'.1 = A.1 ∧ A'.2.2.2.2.2 = A.2.2.2.2.2
theorem Sam.rf : Sam A A := ⟨rfl, rfl⟩
theorem Sam.tr {B : Ofc} (h : Sam A B) (h2 : Sam B A') : Sam A A' := ⟨h2.1.trans h.1, h2.2.trans h.2⟩
theorem Sam.nm (h : Sam A A') (N : NmOk A) : NmOk A' := by
  obtain ⟨a1, a2, a3, a4, a5, a6⟩ := A
  obtain ⟨b1, b2, b3, b4, b5, b6⟩ := A'
  obtain ⟨h1, h2⟩ := h
  cases h1
  cases h2
  exact NmOk.mk N.t N.p N.c
theorem Sam.doo (h : Sam A A') (W : DOo A E) : DOo A' E := by
  obtain ⟨a1, a2, a3, a4, a5, a6⟩ := A
  obtain ⟨b1, b2, b3, b4, b5, b6⟩ := A'
  obtain ⟨h1, h2⟩ := h
  cases h1
  cases h2
  exact W
theorem SOk.sam (S : SOk s) (O : OfcOk A') (h : Sam s.A A') : SOk (s.wA A') := SOk.mk O (h.nm S.n) (h.doo S.e) S.t S.p S.m3 S.mq
theorem SOk.fr (S : SOk s) : SOk (s.fr f) := by
  unfold Sx.fr
  split
  · exact S
  · exact S
theorem SOk.tra (S : SOk s) {T : Trs} (h : TrOk T) : SOk (s.wT T) := SOk.mk S.o S.n S.e h S.p S.m3 S.mq
theorem SOk.tap (S : SOk s) {P : Tp} (h : TpOk P) : SOk (s.wP P) := SOk.mk S.o S.n S.e S.t h S.m3 S.mq
theorem tpOk_0 {P : Tp} : TpOk (0, P.2) := ⟨Nat.zero_le _, fun j hj => absurd hj (Nat.not_lt_zero j)⟩
theorem SOk.mk1 (S : SOk s) (hm : s.m < 3) : SOk s.mk1 := SOk.mk S.o S.n S.e S.t S.p (show s.m + 1 ≤ 3 by omega) (fun k (hk : k < s.m + 1) => by
  show OfcOk (if k = s.m then s.A else s.MA k) ∧ NmOk (if k = s.m then s.A else s.MA k) ∧ DOo (if k = s.m then s.A else s.MA k) (if k = s.m then s.E else s.ME k)
  by_cases h : k = s.m
  · rw [if_pos h, if_pos h]; exact ⟨S.o, S.n, S.e⟩
  · rw [if_neg h, if_neg h]; exact S.mq k (by omega))
theorem SOk.un1 (S : SOk s) (hm : 0 < s.m) : SOk s.un1 := by
  obtain ⟨q1, q2, q3⟩ := S.mq (s.m - 1) (by omega)
  have m3 := S.m3
  exact SOk.mk q1 q2 q3 S.t S.p (show s.m - 1 ≤ 3 by omega) (fun k (hk : k < s.m - 1) => S.mq k (by omega))
theorem SOk.rg (S : SOk s) (v : Int32) : SOk ((s.uRg v).wS (s.ansR v).2) := by
  have h : SOk (s.uRg v) := by
    unfold Sx.uRg
    cases ix v (s.P.1 + 1) with
    | none => exact S
    | some n =>
      have q := qText_ok (B := tB s.P) (n := n)
      dsimp only
      cases hq : qText (tB s.P) n with
      | inl e => exact SOk.mk S.o S.n S.e S.t tpOk_0 S.m3 S.mq
      | inr A => rw [hq] at q; exact SOk.mk q.1 q.2 (fun z hz => by cases hz) S.t tpOk_0 S.m3 S.mq
  exact h
theorem SOk.da (S : SOk s) (v : Int32) : ∃ l : Pg 4, SOk ((s.uDa l v).wS (s.ansD v).2) := by
  have p9 := S.p.1
  have h : ∃ l : Pg 4, SOk (s.uDa l v) := by
    unfold Sx.uDa
    cases hv : ix v (s.P.1 + 1) with
    | none => exact ⟨[], S⟩
    | some n =>
      dsimp only
      by_cases h3 : n ≤ 300
      · have q := qDays_ok (B := tB s.P) (n := n) (A := s.A)
        cases hq : qDays (tB s.P) n s.A with
        | inl e => exact ⟨[], by rw [if_pos h3]; exact SOk.mk S.o S.n S.e S.t tpOk_0 S.m3 S.mq⟩
        | inr D =>
          rw [hq] at q
          obtain ⟨l, hl⟩ := qDays_lay (B := tB s.P) S.o (n := n) (by omega) hq
          refine ⟨l, ?_⟩
          rw [if_pos h3]
          exact SOk.mk S.o S.n (fun z hz => by cases hz; exact ⟨q.1, q.2, hl⟩) S.t tpOk_0 S.m3 S.mq
      · exact ⟨[], by rw [if_neg h3]; exact S⟩
  exact h
theorem smk_file (p : Int32) : Sam A (A.uFile p).2 := by
  unfold Ofc.uFile
  split
  · exact Sam.rf
  · split
    · exact Sam.rf
    · split
      · exact Sam.rf
      · exact ⟨rfl, rfl⟩
theorem smk_lay (p c : Int32) : Sam A (A.uLay p c).2 := by
  unfold Ofc.uLay
  split
  · split
    · exact Sam.rf
    · exact ⟨rfl, rfl⟩
  · exact Sam.rf
theorem smk_take (p : Int32) : Sam A (A.uTake p).2 := by
  unfold Ofc.uTake
  split
  · exact Sam.rf
  · split
    · exact Sam.rf
    · exact ⟨rfl, rfl⟩
theorem smk_swap (c e : Int32) : Sam A (A.uSwap c e).2 := by
  unfold Ofc.uSwap
  split
  · split
    · exact ⟨rfl, rfl⟩
    · exact Sam.rf
  · exact Sam.rf
theorem smk_sort : Sam A A.srt := ⟨rfl, rfl⟩
theorem smk_stain (p t : Int32) (b : Bool) : Sam A (A.uStain p t b).2 := by
  unfold Ofc.uStain
  split
  · split
    · exact Sam.rf
    · exact ⟨rfl, rfl⟩
  · exact Sam.rf
theorem smk_weigh (t v : Int32) : Sam A (A.uWeigh t v).2 := by
  unfold Ofc.uWeigh
  split
  · exact Sam.rf
  · split
    · exact Sam.rf
    · exact ⟨rfl, rfl⟩
theorem smk_walk (c e : Int32) : Sam A (A.uWalk c e).2 := by
  unfold Ofc.uWalk
  split
  · split
    · exact Sam.rf
    · exact ⟨rfl, rfl⟩
  · exact Sam.rf
theorem smk_ask (c e : Int32) : Sam A (A.uAsk c e).2 := by
  unfold Ofc.uAsk
  split
  · dsimp only
    split
    · exact ⟨rfl, rfl⟩
    · exact Sam.rf
  · exact Sam.rf
theorem SOk.rul (S : SOk s) (v m : Int32) : SOk (s.wA (s.A.uRule v m).2) := by
  have O := uRule_ok S.o v m
  unfold Ofc.uRule at *
  split
  · rename_i h
    rw [if_pos h] at O
    exact SOk.mk O (NmOk.mk S.n.t S.n.p S.n.c) S.e S.t S.p S.m3 S.mq
  · rename_i h
    rw [if_neg h] at O
    split
    · rename_i h
      rw [if_pos h] at O
      exact SOk.mk O (NmOk.mk S.n.t S.n.p S.n.c) S.e S.t S.p S.m3 S.mq
    · exact S
theorem SOk.scr (S : SOk s) (v : Int32) : SOk (s.wA (s.A.uScrawl v).2) := by
  have O := uScrawl_ok S.o v
  unfold Ofc.uScrawl at *
  cases hv : ix v (2 ^ s.A.nt) with
  | none => exact S
  | some k =>
    rw [hv] at O
    dsimp only at *
    by_cases h8 : s.A.np < 8
    · rw [if_pos h8] at *
      refine SOk.mk O (NmOk.mk S.n.t (fun p (hp : p < s.A.np + 1) => ?_) S.n.c) (fun z hz => ?_) S.t S.p S.m3 S.mq
      · show updS s.A.pn s.A.np [] p = [] ∨ Nm (updS s.A.pn s.A.np [] p)
        unfold updS
        by_cases h : p = s.A.np
        · rw [if_pos h]; exact .inl rfl
        · rw [if_neg h]; exact S.n.p p (by omega)
      · obtain ⟨d1, d2, d3⟩ := S.e z hz
        exact ⟨d1, d2, Lay_mono (V2 := OpV (s.A.np + 1) s.A.nc (s.A.wide * s.A.high)) (fun x hx => OpV.mono (by omega) hx) 4 z.2 d3⟩
    · rw [if_neg h8] at *
      exact S
def SmL (s t : Lf) : Prop := Sam s.1 t.1
theorem sl_fil (s : Lf) (p : Nat) : SmL s (filL s p) := by
  unfold filL
  split
  · exact ⟨rfl, rfl⟩
  · exact Sam.rf
theorem sl_tak (s : Lf) (p : Nat) : SmL s (takL s p) := by
  unfold takL
  split
  · exact ⟨rfl, rfl⟩
  · exact Sam.rf
theorem sl_ask (s : Lf) (k p : Nat) : SmL s (askL s k p) := by
  unfold askL
  split
  · exact ⟨rfl, rfl⟩
  · exact Sam.rf
theorem sl_swa (s : Lf) (k p : Nat) : SmL s (swaL s k p) := by
  unfold swaL
  split
  · exact ⟨rfl, rfl⟩
  · exact Sam.rf
theorem sl_any (s : Lf) : SmL s (anyL s) := by
  unfold anyL
  split
  · exact Sam.rf
  · split
    · have h := sl_tak s.dr (s.dr.2.2.2.2.2 / 8 % s.1.np)
      exact ⟨h.1, h.2⟩
    · have h := sl_fil s.dr (s.dr.2.2.2.2.2 / 8 % s.1.np)
      exact ⟨h.1, h.2⟩
theorem sl_do (x : Op) (s : Lf) : SmL s (doL x s) := by
  unfold doL
  split
  · exact sl_fil _ _
  · split
    · exact sl_tak _ _
    · split
      · exact sl_swa _ _ _
      · split
        · exact ⟨rfl, rfl⟩
        · split
          · exact sl_ask _ _ _
          · split
            · exact sl_any _
            · exact Sam.rf
theorem sl_itn {f : Lf → Lf} (F : ∀ s, SmL s (f s)) : ∀ n s, SmL s (itn f n s) := by
  intro n
  induction n with
  | zero => intro s; exact Sam.rf
  | succ n ih => intro s; exact Sam.tr (F s) (ih (f s))
theorem sl_it {α : Type} {g : α → Lf → Lf} (G : ∀ I s, SmL s (g I s)) (x : Op × Option α) (s : Lf) : SmL s (itL g x s) := by
  unfold itL
  split
  · exact Sam.rf
  · split
    · exact Sam.rf
    · split
      · exact sl_do _ s.st
      · split
        · exact sl_itn (G _) _ s.st
        · split
          · exact G _ s.st
          · exact Sam.rf
theorem sl_runL {α : Type} {g : α → Lf → Lf} (G : ∀ I s, SmL s (g I s)) : ∀ (l : List (Op × Option α)) (s : Lf), SmL s (runL g l s) := by
  intro l
  induction l with
  | nil => intro s; exact Sam.rf
  | cons x l ih => intro s; exact Sam.tr (sl_it G x s) (ih _)
theorem sl_run : ∀ (n : Nat) (P : Pg n) (s : Lf), SmL s (run n P s) := by
  intro n
  induction n with
  | zero => intro P s; exact Sam.rf
  | succ n ih => intro P s; exact sl_runL (fun I s => ih I s) P s
theorem smk_live (v : Int32) (T : Tl) : Sam A (A.uLive E v T).2.1 := by
  unfold Ofc.uLive
  split
  · split
    · exact Sam.rf
    · exact sl_run 4 _ _
  · exact Sam.rf
theorem SOk.liv (S : SOk s) (v : Int32) : SOk (((s.wA (s.A.uLive s.E v s.Q).2.1).wQ (s.A.uLive s.E v s.Q).2.2).wS (s.A.uLive s.E v s.Q).1.2) :=
  S.sam (uLive_ok S.o S.e v s.Q).1 (smk_live v s.Q)
end KEP
