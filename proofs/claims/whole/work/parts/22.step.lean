section ZS
variable {p : Program} {l : Launch} {e : Env} {R : Room} {s : State} {m : MethodId} {args : Array Value} {below : List Frame} {meth : Method} {c : Code} {Q : State → Prop} {X : zXe} {D : va_G} {L : Nat} {xs : Nat → Int32} {PS : State → Prop} {mid N NS mc ms : Nat} {pc : Nat} {ls st : List Value} {σ τ : MS}
/-- what must hold of what an instruction comes to -/
def zCt (p : Program) (l : Launch) (e : Env) (R : Room) (s : State) (m : MethodId) (args : Array Value) (below : List Frame) (meth : Method) (c : Code) (Q : State → Prop) (X : zXe) (D : va_G) (L : Nat) (xs : Nat → Int32) (PS : State → Prop) (mid N NS mc ms : Nat) (pc : Nat) (z : zR) : Prop := match z with
  | none => False
  | some (.inl (a, b, τ)) => (τ.1.length ≤ N ∧ zsl τ ≤ NS) ∧ zW p l e R s m args below meth c Q X D L xs mid N NS mc ms pc a b τ
  | some (.inr (.inl (t, a, b, τ))) => zW p l e R s m args below meth c Q X D L xs mid N NS mc ms t a b τ
  | some (.inr (.inr (.inl (y, as, a, b, τ)))) => ∃ (d : Nat) (rv : Option Value) (ρ : MS), (y ∈ zWc → as.all zgd = true → (zow y ≠ 14 → zMet l X D L xs PS d y as τ rv ρ) ∧ (zow y = 14 → zMath y as τ rv ρ)) ∧ (d + 2 ≤ R.frames ∧ 60 * (d + 2) ≤ R.locals) ∧ (τ.1.length ≤ ρ.1.length ∧ ρ.1.length ≤ N ∧ zsl τ ≤ zsl ρ ∧ zsl ρ ≤ NS) ∧ rv.toList.all zgd = true ∧ zW p l e R s m args below meth c Q X D L xs mid N NS mc ms pc a (rv.toList ++ b) ρ
  | some (.inr (.inr (.inr (v, τ)))) => Q = MQ below (zQc X D L xs v τ) args s mc ms (fun q => X.1 ≤ q) ∧ N = τ.1.length ∧ NS = zsl τ
theorem zs_iadd (C : zCx X D L xs PS mid N NS mc ms p R s m args meth c)  {a b t u n : Nat} (hc : zchk mid pc (.iadd, a, b, t, u, n) = true) (k : zCt p l e R s m args below meth c Q X D L xs PS mid N NS mc ms (pc + n) (zop (.iadd, a, b, t, u, n) ls st σ)) : zW p l e R s m args below meth c Q X D L xs mid N NS mc ms pc ls st σ := by
  have hc : (zdec mid pc .iadd n && n == 1) = true := hc
  rw [Bool.and_eq_true, beq_iff_eq] at hc
  obtain ⟨h1, rfl⟩ := hc
  have hd := zdec_ok h1
  obtain ⟨y, s0, rfl, k⟩ := zI1_k (P := zCt p l e R s m args below meth c Q X D L xs PS mid N NS mc ms _) (fun h => h) k
  obtain ⟨x, s1, rfl, k⟩ := zI1_k (P := zCt p l e R s m args below meth c Q X D L xs PS mid N NS mc ms _) (fun h => h) k
  exact s_iadd C hd k.2
theorem zs_isub (C : zCx X D L xs PS mid N NS mc ms p R s m args meth c)  {a b t u n : Nat} (hc : zchk mid pc (.isub, a, b, t, u, n) = true) (k : zCt p l e R s m args below meth c Q X D L xs PS mid N NS mc ms (pc + n) (zop (.isub, a, b, t, u, n) ls st σ)) : zW p l e R s m args below meth c Q X D L xs mid N NS mc ms pc ls st σ := by
  have hc : (zdec mid pc .isub n && n == 1) = true := hc
  rw [Bool.and_eq_true, beq_iff_eq] at hc
  obtain ⟨h1, rfl⟩ := hc
  have hd := zdec_ok h1
  obtain ⟨y, s0, rfl, k⟩ := zI1_k (P := zCt p l e R s m args below meth c Q X D L xs PS mid N NS mc ms _) (fun h => h) k
  obtain ⟨x, s1, rfl, k⟩ := zI1_k (P := zCt p l e R s m args below meth c Q X D L xs PS mid N NS mc ms _) (fun h => h) k
  exact s_isub C hd k.2
theorem zs_imul (C : zCx X D L xs PS mid N NS mc ms p R s m args meth c)  {a b t u n : Nat} (hc : zchk mid pc (.imul, a, b, t, u, n) = true) (k : zCt p l e R s m args below meth c Q X D L xs PS mid N NS mc ms (pc + n) (zop (.imul, a, b, t, u, n) ls st σ)) : zW p l e R s m args below meth c Q X D L xs mid N NS mc ms pc ls st σ := by
  have hc : (zdec mid pc .imul n && n == 1) = true := hc
  rw [Bool.and_eq_true, beq_iff_eq] at hc
  obtain ⟨h1, rfl⟩ := hc
  have hd := zdec_ok h1
  obtain ⟨y, s0, rfl, k⟩ := zI1_k (P := zCt p l e R s m args below meth c Q X D L xs PS mid N NS mc ms _) (fun h => h) k
  obtain ⟨x, s1, rfl, k⟩ := zI1_k (P := zCt p l e R s m args below meth c Q X D L xs PS mid N NS mc ms _) (fun h => h) k
  exact s_imul C hd k.2
theorem zs_iand (C : zCx X D L xs PS mid N NS mc ms p R s m args meth c)  {a b t u n : Nat} (hc : zchk mid pc (.iand, a, b, t, u, n) = true) (k : zCt p l e R s m args below meth c Q X D L xs PS mid N NS mc ms (pc + n) (zop (.iand, a, b, t, u, n) ls st σ)) : zW p l e R s m args below meth c Q X D L xs mid N NS mc ms pc ls st σ := by
  have hc : (zdec mid pc .iand n && n == 1) = true := hc
  rw [Bool.and_eq_true, beq_iff_eq] at hc
  obtain ⟨h1, rfl⟩ := hc
  have hd := zdec_ok h1
  obtain ⟨y, s0, rfl, k⟩ := zI1_k (P := zCt p l e R s m args below meth c Q X D L xs PS mid N NS mc ms _) (fun h => h) k
  obtain ⟨x, s1, rfl, k⟩ := zI1_k (P := zCt p l e R s m args below meth c Q X D L xs PS mid N NS mc ms _) (fun h => h) k
  exact s_iand C hd k.2
theorem zs_ior (C : zCx X D L xs PS mid N NS mc ms p R s m args meth c)  {a b t u n : Nat} (hc : zchk mid pc (.ior, a, b, t, u, n) = true) (k : zCt p l e R s m args below meth c Q X D L xs PS mid N NS mc ms (pc + n) (zop (.ior, a, b, t, u, n) ls st σ)) : zW p l e R s m args below meth c Q X D L xs mid N NS mc ms pc ls st σ := by
  have hc : (zdec mid pc .ior n && n == 1) = true := hc
  rw [Bool.and_eq_true, beq_iff_eq] at hc
  obtain ⟨h1, rfl⟩ := hc
  have hd := zdec_ok h1
  obtain ⟨y, s0, rfl, k⟩ := zI1_k (P := zCt p l e R s m args below meth c Q X D L xs PS mid N NS mc ms _) (fun h => h) k
  obtain ⟨x, s1, rfl, k⟩ := zI1_k (P := zCt p l e R s m args below meth c Q X D L xs PS mid N NS mc ms _) (fun h => h) k
  exact s_ior C hd k.2
theorem zs_ixor (C : zCx X D L xs PS mid N NS mc ms p R s m args meth c)  {a b t u n : Nat} (hc : zchk mid pc (.ixor, a, b, t, u, n) = true) (k : zCt p l e R s m args below meth c Q X D L xs PS mid N NS mc ms (pc + n) (zop (.ixor, a, b, t, u, n) ls st σ)) : zW p l e R s m args below meth c Q X D L xs mid N NS mc ms pc ls st σ := by
  have hc : (zdec mid pc .ixor n && n == 1) = true := hc
  rw [Bool.and_eq_true, beq_iff_eq] at hc
  obtain ⟨h1, rfl⟩ := hc
  have hd := zdec_ok h1
  obtain ⟨y, s0, rfl, k⟩ := zI1_k (P := zCt p l e R s m args below meth c Q X D L xs PS mid N NS mc ms _) (fun h => h) k
  obtain ⟨x, s1, rfl, k⟩ := zI1_k (P := zCt p l e R s m args below meth c Q X D L xs PS mid N NS mc ms _) (fun h => h) k
  exact s_ixor C hd k.2
theorem zs_ishl (C : zCx X D L xs PS mid N NS mc ms p R s m args meth c)  {a b t u n : Nat} (hc : zchk mid pc (.ishl, a, b, t, u, n) = true) (k : zCt p l e R s m args below meth c Q X D L xs PS mid N NS mc ms (pc + n) (zop (.ishl, a, b, t, u, n) ls st σ)) : zW p l e R s m args below meth c Q X D L xs mid N NS mc ms pc ls st σ := by
  have hc : (zdec mid pc .ishl n && n == 1) = true := hc
  rw [Bool.and_eq_true, beq_iff_eq] at hc
  obtain ⟨h1, rfl⟩ := hc
  have hd := zdec_ok h1
  obtain ⟨y, s0, rfl, k⟩ := zI1_k (P := zCt p l e R s m args below meth c Q X D L xs PS mid N NS mc ms _) (fun h => h) k
  obtain ⟨x, s1, rfl, k⟩ := zI1_k (P := zCt p l e R s m args below meth c Q X D L xs PS mid N NS mc ms _) (fun h => h) k
  exact s_ishl C hd k.2
theorem zs_ishr (C : zCx X D L xs PS mid N NS mc ms p R s m args meth c)  {a b t u n : Nat} (hc : zchk mid pc (.ishr, a, b, t, u, n) = true) (k : zCt p l e R s m args below meth c Q X D L xs PS mid N NS mc ms (pc + n) (zop (.ishr, a, b, t, u, n) ls st σ)) : zW p l e R s m args below meth c Q X D L xs mid N NS mc ms pc ls st σ := by
  have hc : (zdec mid pc .ishr n && n == 1) = true := hc
  rw [Bool.and_eq_true, beq_iff_eq] at hc
  obtain ⟨h1, rfl⟩ := hc
  have hd := zdec_ok h1
  obtain ⟨y, s0, rfl, k⟩ := zI1_k (P := zCt p l e R s m args below meth c Q X D L xs PS mid N NS mc ms _) (fun h => h) k
  obtain ⟨x, s1, rfl, k⟩ := zI1_k (P := zCt p l e R s m args below meth c Q X D L xs PS mid N NS mc ms _) (fun h => h) k
  exact s_ishr C hd k.2
theorem zs_iushr (C : zCx X D L xs PS mid N NS mc ms p R s m args meth c)  {a b t u n : Nat} (hc : zchk mid pc (.iushr, a, b, t, u, n) = true) (k : zCt p l e R s m args below meth c Q X D L xs PS mid N NS mc ms (pc + n) (zop (.iushr, a, b, t, u, n) ls st σ)) : zW p l e R s m args below meth c Q X D L xs mid N NS mc ms pc ls st σ := by
  have hc : (zdec mid pc .iushr n && n == 1) = true := hc
  rw [Bool.and_eq_true, beq_iff_eq] at hc
  obtain ⟨h1, rfl⟩ := hc
  have hd := zdec_ok h1
  obtain ⟨y, s0, rfl, k⟩ := zI1_k (P := zCt p l e R s m args below meth c Q X D L xs PS mid N NS mc ms _) (fun h => h) k
  obtain ⟨x, s1, rfl, k⟩ := zI1_k (P := zCt p l e R s m args below meth c Q X D L xs PS mid N NS mc ms _) (fun h => h) k
  exact s_iushr C hd k.2
theorem zs_idiv (C : zCx X D L xs PS mid N NS mc ms p R s m args meth c)  {a b t u n : Nat} (hc : zchk mid pc (.idiv, a, b, t, u, n) = true) (k : zCt p l e R s m args below meth c Q X D L xs PS mid N NS mc ms (pc + n) (zop (.idiv, a, b, t, u, n) ls st σ)) : zW p l e R s m args below meth c Q X D L xs mid N NS mc ms pc ls st σ := by
  have hc : (zdec mid pc .idiv n && n == 1) = true := hc
  rw [Bool.and_eq_true, beq_iff_eq] at hc
  obtain ⟨h1, rfl⟩ := hc
  have hd := zdec_ok h1
  obtain ⟨y, s0, rfl, k⟩ := zI1_k (P := zCt p l e R s m args below meth c Q X D L xs PS mid N NS mc ms _) (fun h => h) k
  obtain ⟨x, s1, rfl, k⟩ := zI1_k (P := zCt p l e R s m args below meth c Q X D L xs PS mid N NS mc ms _) (fun h => h) k
  obtain ⟨hy, k⟩ := zif_n (P := zCt p l e R s m args below meth c Q X D L xs PS mid N NS mc ms (pc + 1)) (fun h => h) k
  exact s_idiv C hd hy k.2
theorem zs_irem (C : zCx X D L xs PS mid N NS mc ms p R s m args meth c)  {a b t u n : Nat} (hc : zchk mid pc (.irem, a, b, t, u, n) = true) (k : zCt p l e R s m args below meth c Q X D L xs PS mid N NS mc ms (pc + n) (zop (.irem, a, b, t, u, n) ls st σ)) : zW p l e R s m args below meth c Q X D L xs mid N NS mc ms pc ls st σ := by
  have hc : (zdec mid pc .irem n && n == 1) = true := hc
  rw [Bool.and_eq_true, beq_iff_eq] at hc
  obtain ⟨h1, rfl⟩ := hc
  have hd := zdec_ok h1
  obtain ⟨y, s0, rfl, k⟩ := zI1_k (P := zCt p l e R s m args below meth c Q X D L xs PS mid N NS mc ms _) (fun h => h) k
  obtain ⟨x, s1, rfl, k⟩ := zI1_k (P := zCt p l e R s m args below meth c Q X D L xs PS mid N NS mc ms _) (fun h => h) k
  obtain ⟨hy, k⟩ := zif_n (P := zCt p l e R s m args below meth c Q X D L xs PS mid N NS mc ms (pc + 1)) (fun h => h) k
  exact s_irem C hd hy k.2
theorem zs_ladd (C : zCx X D L xs PS mid N NS mc ms p R s m args meth c)  {a b t u n : Nat} (hc : zchk mid pc (.ladd, a, b, t, u, n) = true) (k : zCt p l e R s m args below meth c Q X D L xs PS mid N NS mc ms (pc + n) (zop (.ladd, a, b, t, u, n) ls st σ)) : zW p l e R s m args below meth c Q X D L xs mid N NS mc ms pc ls st σ := by
  have hc : (zdec mid pc .ladd n && n == 1) = true := hc
  rw [Bool.and_eq_true, beq_iff_eq] at hc
  obtain ⟨h1, rfl⟩ := hc
  have hd := zdec_ok h1
  obtain ⟨y, s0, rfl, k⟩ := zL1_k (P := zCt p l e R s m args below meth c Q X D L xs PS mid N NS mc ms _) (fun h => h) k
  obtain ⟨x, s1, rfl, k⟩ := zL1_k (P := zCt p l e R s m args below meth c Q X D L xs PS mid N NS mc ms _) (fun h => h) k
  exact s_ladd C hd k.2
theorem zs_lsub (C : zCx X D L xs PS mid N NS mc ms p R s m args meth c)  {a b t u n : Nat} (hc : zchk mid pc (.lsub, a, b, t, u, n) = true) (k : zCt p l e R s m args below meth c Q X D L xs PS mid N NS mc ms (pc + n) (zop (.lsub, a, b, t, u, n) ls st σ)) : zW p l e R s m args below meth c Q X D L xs mid N NS mc ms pc ls st σ := by
  have hc : (zdec mid pc .lsub n && n == 1) = true := hc
  rw [Bool.and_eq_true, beq_iff_eq] at hc
  obtain ⟨h1, rfl⟩ := hc
  have hd := zdec_ok h1
  obtain ⟨y, s0, rfl, k⟩ := zL1_k (P := zCt p l e R s m args below meth c Q X D L xs PS mid N NS mc ms _) (fun h => h) k
  obtain ⟨x, s1, rfl, k⟩ := zL1_k (P := zCt p l e R s m args below meth c Q X D L xs PS mid N NS mc ms _) (fun h => h) k
  exact s_lsub C hd k.2
theorem zs_lmul (C : zCx X D L xs PS mid N NS mc ms p R s m args meth c)  {a b t u n : Nat} (hc : zchk mid pc (.lmul, a, b, t, u, n) = true) (k : zCt p l e R s m args below meth c Q X D L xs PS mid N NS mc ms (pc + n) (zop (.lmul, a, b, t, u, n) ls st σ)) : zW p l e R s m args below meth c Q X D L xs mid N NS mc ms pc ls st σ := by
  have hc : (zdec mid pc .lmul n && n == 1) = true := hc
  rw [Bool.and_eq_true, beq_iff_eq] at hc
  obtain ⟨h1, rfl⟩ := hc
  have hd := zdec_ok h1
  obtain ⟨y, s0, rfl, k⟩ := zL1_k (P := zCt p l e R s m args below meth c Q X D L xs PS mid N NS mc ms _) (fun h => h) k
  obtain ⟨x, s1, rfl, k⟩ := zL1_k (P := zCt p l e R s m args below meth c Q X D L xs PS mid N NS mc ms _) (fun h => h) k
  exact s_lmul C hd k.2
theorem zs_land (C : zCx X D L xs PS mid N NS mc ms p R s m args meth c)  {a b t u n : Nat} (hc : zchk mid pc (.land, a, b, t, u, n) = true) (k : zCt p l e R s m args below meth c Q X D L xs PS mid N NS mc ms (pc + n) (zop (.land, a, b, t, u, n) ls st σ)) : zW p l e R s m args below meth c Q X D L xs mid N NS mc ms pc ls st σ := by
  have hc : (zdec mid pc .land n && n == 1) = true := hc
  rw [Bool.and_eq_true, beq_iff_eq] at hc
  obtain ⟨h1, rfl⟩ := hc
  have hd := zdec_ok h1
  obtain ⟨y, s0, rfl, k⟩ := zL1_k (P := zCt p l e R s m args below meth c Q X D L xs PS mid N NS mc ms _) (fun h => h) k
  obtain ⟨x, s1, rfl, k⟩ := zL1_k (P := zCt p l e R s m args below meth c Q X D L xs PS mid N NS mc ms _) (fun h => h) k
  exact s_land C hd k.2
theorem zs_lor (C : zCx X D L xs PS mid N NS mc ms p R s m args meth c)  {a b t u n : Nat} (hc : zchk mid pc (.lor, a, b, t, u, n) = true) (k : zCt p l e R s m args below meth c Q X D L xs PS mid N NS mc ms (pc + n) (zop (.lor, a, b, t, u, n) ls st σ)) : zW p l e R s m args below meth c Q X D L xs mid N NS mc ms pc ls st σ := by
  have hc : (zdec mid pc .lor n && n == 1) = true := hc
  rw [Bool.and_eq_true, beq_iff_eq] at hc
  obtain ⟨h1, rfl⟩ := hc
  have hd := zdec_ok h1
  obtain ⟨y, s0, rfl, k⟩ := zL1_k (P := zCt p l e R s m args below meth c Q X D L xs PS mid N NS mc ms _) (fun h => h) k
  obtain ⟨x, s1, rfl, k⟩ := zL1_k (P := zCt p l e R s m args below meth c Q X D L xs PS mid N NS mc ms _) (fun h => h) k
  exact s_lor C hd k.2
theorem zs_lcmp (C : zCx X D L xs PS mid N NS mc ms p R s m args meth c)  {a b t u n : Nat} (hc : zchk mid pc (.lcmp, a, b, t, u, n) = true) (k : zCt p l e R s m args below meth c Q X D L xs PS mid N NS mc ms (pc + n) (zop (.lcmp, a, b, t, u, n) ls st σ)) : zW p l e R s m args below meth c Q X D L xs mid N NS mc ms pc ls st σ := by
  have hc : (zdec mid pc .lcmp n && n == 1) = true := hc
  rw [Bool.and_eq_true, beq_iff_eq] at hc
  obtain ⟨h1, rfl⟩ := hc
  have hd := zdec_ok h1
  obtain ⟨y, s0, rfl, k⟩ := zL1_k (P := zCt p l e R s m args below meth c Q X D L xs PS mid N NS mc ms _) (fun h => h) k
  obtain ⟨x, s1, rfl, k⟩ := zL1_k (P := zCt p l e R s m args below meth c Q X D L xs PS mid N NS mc ms _) (fun h => h) k
  exact s_lcmp C hd k.2
theorem zs_ldiv (C : zCx X D L xs PS mid N NS mc ms p R s m args meth c)  {a b t u n : Nat} (hc : zchk mid pc (.ldiv, a, b, t, u, n) = true) (k : zCt p l e R s m args below meth c Q X D L xs PS mid N NS mc ms (pc + n) (zop (.ldiv, a, b, t, u, n) ls st σ)) : zW p l e R s m args below meth c Q X D L xs mid N NS mc ms pc ls st σ := by
  have hc : (zdec mid pc .ldiv n && n == 1) = true := hc
  rw [Bool.and_eq_true, beq_iff_eq] at hc
  obtain ⟨h1, rfl⟩ := hc
  have hd := zdec_ok h1
  obtain ⟨y, s0, rfl, k⟩ := zL1_k (P := zCt p l e R s m args below meth c Q X D L xs PS mid N NS mc ms _) (fun h => h) k
  obtain ⟨x, s1, rfl, k⟩ := zL1_k (P := zCt p l e R s m args below meth c Q X D L xs PS mid N NS mc ms _) (fun h => h) k
  obtain ⟨hy, k⟩ := zif_n (P := zCt p l e R s m args below meth c Q X D L xs PS mid N NS mc ms (pc + 1)) (fun h => h) k
  exact s_ldiv C hd hy k.2
theorem zs_lrem (C : zCx X D L xs PS mid N NS mc ms p R s m args meth c)  {a b t u n : Nat} (hc : zchk mid pc (.lrem, a, b, t, u, n) = true) (k : zCt p l e R s m args below meth c Q X D L xs PS mid N NS mc ms (pc + n) (zop (.lrem, a, b, t, u, n) ls st σ)) : zW p l e R s m args below meth c Q X D L xs mid N NS mc ms pc ls st σ := by
  have hc : (zdec mid pc .lrem n && n == 1) = true := hc
  rw [Bool.and_eq_true, beq_iff_eq] at hc
  obtain ⟨h1, rfl⟩ := hc
  have hd := zdec_ok h1
  obtain ⟨y, s0, rfl, k⟩ := zL1_k (P := zCt p l e R s m args below meth c Q X D L xs PS mid N NS mc ms _) (fun h => h) k
  obtain ⟨x, s1, rfl, k⟩ := zL1_k (P := zCt p l e R s m args below meth c Q X D L xs PS mid N NS mc ms _) (fun h => h) k
  obtain ⟨hy, k⟩ := zif_n (P := zCt p l e R s m args below meth c Q X D L xs PS mid N NS mc ms (pc + 1)) (fun h => h) k
  exact s_lrem C hd hy k.2
theorem zs_lshl (C : zCx X D L xs PS mid N NS mc ms p R s m args meth c)  {a b t u n : Nat} (hc : zchk mid pc (.lshl, a, b, t, u, n) = true) (k : zCt p l e R s m args below meth c Q X D L xs PS mid N NS mc ms (pc + n) (zop (.lshl, a, b, t, u, n) ls st σ)) : zW p l e R s m args below meth c Q X D L xs mid N NS mc ms pc ls st σ := by
  have hc : (zdec mid pc .lshl n && n == 1) = true := hc
  rw [Bool.and_eq_true, beq_iff_eq] at hc
  obtain ⟨h1, rfl⟩ := hc
  have hd := zdec_ok h1
  obtain ⟨y, s0, rfl, k⟩ := zI1_k (P := zCt p l e R s m args below meth c Q X D L xs PS mid N NS mc ms _) (fun h => h) k
  obtain ⟨x, s1, rfl, k⟩ := zL1_k (P := zCt p l e R s m args below meth c Q X D L xs PS mid N NS mc ms _) (fun h => h) k
  exact s_lshl C hd k.2
theorem zs_i2l (C : zCx X D L xs PS mid N NS mc ms p R s m args meth c)  {a b t u n : Nat} (hc : zchk mid pc (.i2l, a, b, t, u, n) = true) (k : zCt p l e R s m args below meth c Q X D L xs PS mid N NS mc ms (pc + n) (zop (.i2l, a, b, t, u, n) ls st σ)) : zW p l e R s m args below meth c Q X D L xs mid N NS mc ms pc ls st σ := by
  have hc : (zdec mid pc .i2l n && n == 1) = true := hc
  rw [Bool.and_eq_true, beq_iff_eq] at hc
  obtain ⟨h1, rfl⟩ := hc
  have hd := zdec_ok h1
  obtain ⟨x, s1, rfl, k⟩ := zI1_k (P := zCt p l e R s m args below meth c Q X D L xs PS mid N NS mc ms _) (fun h => h) k
  exact s_i2l C hd k.2
theorem zs_l2i (C : zCx X D L xs PS mid N NS mc ms p R s m args meth c)  {a b t u n : Nat} (hc : zchk mid pc (.l2i, a, b, t, u, n) = true) (k : zCt p l e R s m args below meth c Q X D L xs PS mid N NS mc ms (pc + n) (zop (.l2i, a, b, t, u, n) ls st σ)) : zW p l e R s m args below meth c Q X D L xs mid N NS mc ms pc ls st σ := by
  have hc : (zdec mid pc .l2i n && n == 1) = true := hc
  rw [Bool.and_eq_true, beq_iff_eq] at hc
  obtain ⟨h1, rfl⟩ := hc
  have hd := zdec_ok h1
  obtain ⟨x, s1, rfl, k⟩ := zL1_k (P := zCt p l e R s m args below meth c Q X D L xs PS mid N NS mc ms _) (fun h => h) k
  exact s_l2i C hd k.2
theorem zs_i2b (C : zCx X D L xs PS mid N NS mc ms p R s m args meth c)  {a b t u n : Nat} (hc : zchk mid pc (.i2b, a, b, t, u, n) = true) (k : zCt p l e R s m args below meth c Q X D L xs PS mid N NS mc ms (pc + n) (zop (.i2b, a, b, t, u, n) ls st σ)) : zW p l e R s m args below meth c Q X D L xs mid N NS mc ms pc ls st σ := by
  have hc : (zdec mid pc .i2b n && n == 1) = true := hc
  rw [Bool.and_eq_true, beq_iff_eq] at hc
  obtain ⟨h1, rfl⟩ := hc
  have hd := zdec_ok h1
  obtain ⟨x, s1, rfl, k⟩ := zI1_k (P := zCt p l e R s m args below meth c Q X D L xs PS mid N NS mc ms _) (fun h => h) k
  exact s_i2b C hd k.2
theorem zs_i2s (C : zCx X D L xs PS mid N NS mc ms p R s m args meth c)  {a b t u n : Nat} (hc : zchk mid pc (.i2s, a, b, t, u, n) = true) (k : zCt p l e R s m args below meth c Q X D L xs PS mid N NS mc ms (pc + n) (zop (.i2s, a, b, t, u, n) ls st σ)) : zW p l e R s m args below meth c Q X D L xs mid N NS mc ms pc ls st σ := by
  have hc : (zdec mid pc .i2s n && n == 1) = true := hc
  rw [Bool.and_eq_true, beq_iff_eq] at hc
  obtain ⟨h1, rfl⟩ := hc
  have hd := zdec_ok h1
  obtain ⟨x, s1, rfl, k⟩ := zI1_k (P := zCt p l e R s m args below meth c Q X D L xs PS mid N NS mc ms _) (fun h => h) k
  exact s_i2s C hd k.2
theorem zs_iconst (C : zCx X D L xs PS mid N NS mc ms p R s m args meth c) {v : Int}  {a b t u n : Nat} (hc : zchk mid pc (.iconst v, a, b, t, u, n) = true) (k : zCt p l e R s m args below meth c Q X D L xs PS mid N NS mc ms (pc + n) (zop (.iconst v, a, b, t, u, n) ls st σ)) : zW p l e R s m args below meth c Q X D L xs mid N NS mc ms pc ls st σ := by
  have hc : (zdec mid pc (.iconst v) n && n == 1 && decide (Int32.ofInt v = zk32 a t)) = true := hc
  rw [Bool.and_eq_true, Bool.and_eq_true, beq_iff_eq, decide_eq_true_eq] at hc
  obtain ⟨⟨h1, rfl⟩, h2⟩ := hc
  exact s_iconst C (zdec_ok h1) h2 k.2
theorem zs_bipush (C : zCx X D L xs PS mid N NS mc ms p R s m args meth c) {v : Int}  {a b t u n : Nat} (hc : zchk mid pc (.bipush v, a, b, t, u, n) = true) (k : zCt p l e R s m args below meth c Q X D L xs PS mid N NS mc ms (pc + n) (zop (.bipush v, a, b, t, u, n) ls st σ)) : zW p l e R s m args below meth c Q X D L xs mid N NS mc ms pc ls st σ := by
  have hc : (zdec mid pc (.bipush v) n && n == 2 && decide ((Int8.ofInt v).toInt32 = zk32 a t)) = true := hc
  rw [Bool.and_eq_true, Bool.and_eq_true, beq_iff_eq, decide_eq_true_eq] at hc
  obtain ⟨⟨h1, rfl⟩, h2⟩ := hc
  exact s_bipush C (zdec_ok h1) h2 k.2
theorem zs_sipush (C : zCx X D L xs PS mid N NS mc ms p R s m args meth c) {v : Int}  {a b t u n : Nat} (hc : zchk mid pc (.sipush v, a, b, t, u, n) = true) (k : zCt p l e R s m args below meth c Q X D L xs PS mid N NS mc ms (pc + n) (zop (.sipush v, a, b, t, u, n) ls st σ)) : zW p l e R s m args below meth c Q X D L xs mid N NS mc ms pc ls st σ := by
  have hc : (zdec mid pc (.sipush v) n && n == 3 && decide ((Int16.ofInt v).toInt32 = zk32 a t)) = true := hc
  rw [Bool.and_eq_true, Bool.and_eq_true, beq_iff_eq, decide_eq_true_eq] at hc
  obtain ⟨⟨h1, rfl⟩, h2⟩ := hc
  exact s_sipush C (zdec_ok h1) h2 k.2
theorem zs_lconst (C : zCx X D L xs PS mid N NS mc ms p R s m args meth c) {v : Fin 2}  {a b t u n : Nat} (hc : zchk mid pc (.lconst v, a, b, t, u, n) = true) (k : zCt p l e R s m args below meth c Q X D L xs PS mid N NS mc ms (pc + n) (zop (.lconst v, a, b, t, u, n) ls st σ)) : zW p l e R s m args below meth c Q X D L xs mid N NS mc ms pc ls st σ := by
  have hc : (zdec mid pc (.lconst v) n && n == 1 && decide (Int64.ofNat (v : Nat) = zk64 a t)) = true := hc
  rw [Bool.and_eq_true, Bool.and_eq_true, beq_iff_eq, decide_eq_true_eq] at hc
  obtain ⟨⟨h1, rfl⟩, h2⟩ := hc
  exact s_lconst C (zdec_ok h1) h2 k.2
theorem zs_ldc2_w (C : zCx X D L xs PS mid N NS mc ms p R s m args meth c) {v : Nat}  {a b t u n : Nat} (hc : zchk mid pc (.ldc2_w v, a, b, t, u, n) = true) (k : zCt p l e R s m args below meth c Q X D L xs PS mid N NS mc ms (pc + n) (zop (.ldc2_w v, a, b, t, u, n) ls st σ)) : zW p l e R s m args below meth c Q X D L xs mid N NS mc ms pc ls st σ := by
  have hc : (zdec mid pc (.ldc2_w v) n && n == 3 && zWy.contains (zow mid, v, a, t)) = true := hc
  rw [Bool.and_eq_true, Bool.and_eq_true, beq_iff_eq] at hc
  obtain ⟨⟨h1, rfl⟩, h2⟩ := hc
  exact s_ldc2 C (zdec_ok h1) (zTB_of (zWy_in _ (zcont h2)) rfl) k.2
theorem zs_ldc_w (C : zCx X D L xs PS mid N NS mc ms p R s m args meth c) {v : Nat}  {a b t u n : Nat} (hc : zchk mid pc (.ldc_w v, a, b, t, u, n) = true) (k : zCt p l e R s m args below meth c Q X D L xs PS mid N NS mc ms (pc + n) (zop (.ldc_w v, a, b, t, u, n) ls st σ)) : zW p l e R s m args below meth c Q X D L xs mid N NS mc ms pc ls st σ := by
  have hc : (zdec mid pc (.ldc_w v) n && n == 3 && zWx.contains (zow mid, v, a, t)) = true := hc
  rw [Bool.and_eq_true, Bool.and_eq_true, beq_iff_eq] at hc
  obtain ⟨⟨h1, rfl⟩, h2⟩ := hc
  exact s_ldc_w C (zdec_ok h1) (zTB_of (zWx_in _ (zcont h2)) rfl) k.2
theorem zs_ldc (C : zCx X D L xs PS mid N NS mc ms p R s m args meth c) {v : Nat}  {a b t u n : Nat} (hc : zchk mid pc (.ldc v, a, b, t, u, n) = true) (k : zCt p l e R s m args below meth c Q X D L xs PS mid N NS mc ms (pc + n) (zop (.ldc v, a, b, t, u, n) ls st σ)) : zW p l e R s m args below meth c Q X D L xs mid N NS mc ms pc ls st σ := by
  have hc : (zdec mid pc (.ldc v) n && n == 2 && (if t = 2 then zWq.contains (zow mid, v, a) else zWx.contains (zow mid, v, a, t))) = true := hc
  rw [Bool.and_eq_true, Bool.and_eq_true, beq_iff_eq] at hc
  obtain ⟨⟨h1, rfl⟩, h2⟩ := hc
  have k : zCt p l e R s m args below meth c Q X D L xs PS mid N NS mc ms (pc + 2) (zNx ls ((if t = 2 then .ref (zStr + a) else .int (zk32 a t)) :: st) σ) := k
  by_cases ht : t = 2
  · rw [if_pos ht] at h2 k
    exact s_ldcS C (zdec_ok h1) (zcont h2) k.2
  · rw [if_neg ht] at h2 k
    exact s_ldc C (zdec_ok h1) (zTB_of (zWx_in _ (zcont h2)) rfl) k.2
theorem zs_iload (C : zCx X D L xs PS mid N NS mc ms p R s m args meth c) {v : Nat}  {a b t u n : Nat} (hc : zchk mid pc (.iload v, a, b, t, u, n) = true) (k : zCt p l e R s m args below meth c Q X D L xs PS mid N NS mc ms (pc + n) (zop (.iload v, a, b, t, u, n) ls st σ)) : zW p l e R s m args below meth c Q X D L xs mid N NS mc ms pc ls st σ := by
  have hc : (zdec mid pc (.iload v) n && n == 2 && v == a) = true := hc
  rw [Bool.and_eq_true, Bool.and_eq_true, beq_iff_eq, beq_iff_eq] at hc
  obtain ⟨⟨h1, rfl⟩, rfl⟩ := hc
  obtain ⟨x, s1, he, k⟩ := zI1_k (P := zCt p l e R s m args below meth c Q X D L xs PS mid N NS mc ms _) (fun h => h) k
  have hx : zGet ls v = _ := (List.cons.inj he).1
  exact s_iload C (zdec_ok h1) hx k.2
theorem zs_iload_n (C : zCx X D L xs PS mid N NS mc ms p R s m args meth c) {v : Fin 4}  {a b t u n : Nat} (hc : zchk mid pc (.iload_n v, a, b, t, u, n) = true) (k : zCt p l e R s m args below meth c Q X D L xs PS mid N NS mc ms (pc + n) (zop (.iload_n v, a, b, t, u, n) ls st σ)) : zW p l e R s m args below meth c Q X D L xs mid N NS mc ms pc ls st σ := by
  obtain ⟨x, s1, he, k⟩ := zI1_k (P := zCt p l e R s m args below meth c Q X D L xs PS mid N NS mc ms _) (fun h => h) k
  have hx : zGet ls a = _ := (List.cons.inj he).1
  have hc : (zdec mid pc (.iload_n v) n && n == 1 && (v : Nat) == a) = true := hc
  rw [Bool.and_eq_true, Bool.and_eq_true, beq_iff_eq, beq_iff_eq] at hc
  obtain ⟨⟨h1, rfl⟩, h2⟩ := hc
  exact s_iload_n C (zdec_ok h1) h2 hx k.2
theorem zs_istore (C : zCx X D L xs PS mid N NS mc ms p R s m args meth c) {v : Nat}  {a b t u n : Nat} (hc : zchk mid pc (.istore v, a, b, t, u, n) = true) (k : zCt p l e R s m args below meth c Q X D L xs PS mid N NS mc ms (pc + n) (zop (.istore v, a, b, t, u, n) ls st σ)) : zW p l e R s m args below meth c Q X D L xs mid N NS mc ms pc ls st σ := by
  obtain ⟨x, s1, rfl, k⟩ := zI1_k (P := zCt p l e R s m args below meth c Q X D L xs PS mid N NS mc ms _) (fun h => h) k
  have hc : (zdec mid pc (.istore v) n && n == 2 && v == a && decide (a < zmx mid)) = true := hc
  rw [Bool.and_eq_true, Bool.and_eq_true, Bool.and_eq_true, beq_iff_eq, beq_iff_eq, decide_eq_true_eq] at hc
  obtain ⟨⟨⟨h1, rfl⟩, rfl⟩, h2⟩ := hc
  exact s_istore C (zdec_ok h1) h2 k.2
theorem zs_istore_n (C : zCx X D L xs PS mid N NS mc ms p R s m args meth c) {v : Fin 4}  {a b t u n : Nat} (hc : zchk mid pc (.istore_n v, a, b, t, u, n) = true) (k : zCt p l e R s m args below meth c Q X D L xs PS mid N NS mc ms (pc + n) (zop (.istore_n v, a, b, t, u, n) ls st σ)) : zW p l e R s m args below meth c Q X D L xs mid N NS mc ms pc ls st σ := by
  obtain ⟨x, s1, rfl, k⟩ := zI1_k (P := zCt p l e R s m args below meth c Q X D L xs PS mid N NS mc ms _) (fun h => h) k
  have hc : (zdec mid pc (.istore_n v) n && n == 1 && (v : Nat) == a && decide (a < zmx mid)) = true := hc
  rw [Bool.and_eq_true, Bool.and_eq_true, Bool.and_eq_true, beq_iff_eq, beq_iff_eq, decide_eq_true_eq] at hc
  obtain ⟨⟨⟨h1, rfl⟩, h3⟩, h2⟩ := hc
  exact s_istore_n C (zdec_ok h1) h3 h2 k.2
theorem zs_lload (C : zCx X D L xs PS mid N NS mc ms p R s m args meth c) {v : Nat}  {a b t u n : Nat} (hc : zchk mid pc (.lload v, a, b, t, u, n) = true) (k : zCt p l e R s m args below meth c Q X D L xs PS mid N NS mc ms (pc + n) (zop (.lload v, a, b, t, u, n) ls st σ)) : zW p l e R s m args below meth c Q X D L xs mid N NS mc ms pc ls st σ := by
  have hc : (zdec mid pc (.lload v) n && n == 2 && v == a) = true := hc
  rw [Bool.and_eq_true, Bool.and_eq_true, beq_iff_eq, beq_iff_eq] at hc
  obtain ⟨⟨h1, rfl⟩, rfl⟩ := hc
  obtain ⟨x, s1, he, k⟩ := zL1_k (P := zCt p l e R s m args below meth c Q X D L xs PS mid N NS mc ms _) (fun h => h) k
  have hx : zGet ls v = _ := (List.cons.inj he).1
  exact s_lload C (zdec_ok h1) hx k.2
theorem zs_lload_n (C : zCx X D L xs PS mid N NS mc ms p R s m args meth c) {v : Fin 4}  {a b t u n : Nat} (hc : zchk mid pc (.lload_n v, a, b, t, u, n) = true) (k : zCt p l e R s m args below meth c Q X D L xs PS mid N NS mc ms (pc + n) (zop (.lload_n v, a, b, t, u, n) ls st σ)) : zW p l e R s m args below meth c Q X D L xs mid N NS mc ms pc ls st σ := by
  obtain ⟨x, s1, he, k⟩ := zL1_k (P := zCt p l e R s m args below meth c Q X D L xs PS mid N NS mc ms _) (fun h => h) k
  have hx : zGet ls a = _ := (List.cons.inj he).1
  have hc : (zdec mid pc (.lload_n v) n && n == 1 && (v : Nat) == a) = true := hc
  rw [Bool.and_eq_true, Bool.and_eq_true, beq_iff_eq, beq_iff_eq] at hc
  obtain ⟨⟨h1, rfl⟩, h2⟩ := hc
  exact s_lload_n C (zdec_ok h1) h2 hx k.2
theorem zs_lstore (C : zCx X D L xs PS mid N NS mc ms p R s m args meth c) {v : Nat}  {a b t u n : Nat} (hc : zchk mid pc (.lstore v, a, b, t, u, n) = true) (k : zCt p l e R s m args below meth c Q X D L xs PS mid N NS mc ms (pc + n) (zop (.lstore v, a, b, t, u, n) ls st σ)) : zW p l e R s m args below meth c Q X D L xs mid N NS mc ms pc ls st σ := by
  obtain ⟨x, s1, rfl, k⟩ := zL1_k (P := zCt p l e R s m args below meth c Q X D L xs PS mid N NS mc ms _) (fun h => h) k
  have hc : (zdec mid pc (.lstore v) n && n == 2 && v == a && decide (a + 1 < zmx mid)) = true := hc
  rw [Bool.and_eq_true, Bool.and_eq_true, Bool.and_eq_true, beq_iff_eq, beq_iff_eq, decide_eq_true_eq] at hc
  obtain ⟨⟨⟨h1, rfl⟩, rfl⟩, h2⟩ := hc
  exact s_lstore C (zdec_ok h1) h2 k.2
theorem zs_lstore_n (C : zCx X D L xs PS mid N NS mc ms p R s m args meth c) {v : Fin 4}  {a b t u n : Nat} (hc : zchk mid pc (.lstore_n v, a, b, t, u, n) = true) (k : zCt p l e R s m args below meth c Q X D L xs PS mid N NS mc ms (pc + n) (zop (.lstore_n v, a, b, t, u, n) ls st σ)) : zW p l e R s m args below meth c Q X D L xs mid N NS mc ms pc ls st σ := by
  obtain ⟨x, s1, rfl, k⟩ := zL1_k (P := zCt p l e R s m args below meth c Q X D L xs PS mid N NS mc ms _) (fun h => h) k
  have hc : (zdec mid pc (.lstore_n v) n && n == 1 && (v : Nat) == a && decide (a + 1 < zmx mid)) = true := hc
  rw [Bool.and_eq_true, Bool.and_eq_true, Bool.and_eq_true, beq_iff_eq, beq_iff_eq, decide_eq_true_eq] at hc
  obtain ⟨⟨⟨h1, rfl⟩, h3⟩, h2⟩ := hc
  exact s_lstore_n C (zdec_ok h1) h3 h2 k.2
theorem zs_aload (C : zCx X D L xs PS mid N NS mc ms p R s m args meth c) {v : Nat}  {a b t u n : Nat} (hc : zchk mid pc (.aload v, a, b, t, u, n) = true) (k : zCt p l e R s m args below meth c Q X D L xs PS mid N NS mc ms (pc + n) (zop (.aload v, a, b, t, u, n) ls st σ)) : zW p l e R s m args below meth c Q X D L xs mid N NS mc ms pc ls st σ := by
  have hc : (zdec mid pc (.aload v) n && n == 2 && v == a) = true := hc
  rw [Bool.and_eq_true, Bool.and_eq_true, beq_iff_eq, beq_iff_eq] at hc
  obtain ⟨⟨h1, rfl⟩, rfl⟩ := hc
  obtain ⟨x, s1, he, k⟩ := zA1_k (P := zCt p l e R s m args below meth c Q X D L xs PS mid N NS mc ms _) (fun h => h) k
  have hx : zGet ls v = _ := (List.cons.inj he).1
  exact s_aload C (zdec_ok h1) hx k.2
theorem zs_aload_n (C : zCx X D L xs PS mid N NS mc ms p R s m args meth c) {v : Fin 4}  {a b t u n : Nat} (hc : zchk mid pc (.aload_n v, a, b, t, u, n) = true) (k : zCt p l e R s m args below meth c Q X D L xs PS mid N NS mc ms (pc + n) (zop (.aload_n v, a, b, t, u, n) ls st σ)) : zW p l e R s m args below meth c Q X D L xs mid N NS mc ms pc ls st σ := by
  obtain ⟨x, s1, he, k⟩ := zA1_k (P := zCt p l e R s m args below meth c Q X D L xs PS mid N NS mc ms _) (fun h => h) k
  have hx : zGet ls a = _ := (List.cons.inj he).1
  have hc : (zdec mid pc (.aload_n v) n && n == 1 && (v : Nat) == a) = true := hc
  rw [Bool.and_eq_true, Bool.and_eq_true, beq_iff_eq, beq_iff_eq] at hc
  obtain ⟨⟨h1, rfl⟩, h2⟩ := hc
  exact s_aload_n C (zdec_ok h1) h2 hx k.2
theorem zs_astore (C : zCx X D L xs PS mid N NS mc ms p R s m args meth c) {v : Nat}  {a b t u n : Nat} (hc : zchk mid pc (.astore v, a, b, t, u, n) = true) (k : zCt p l e R s m args below meth c Q X D L xs PS mid N NS mc ms (pc + n) (zop (.astore v, a, b, t, u, n) ls st σ)) : zW p l e R s m args below meth c Q X D L xs mid N NS mc ms pc ls st σ := by
  obtain ⟨x, s1, rfl, k⟩ := zA1_k (P := zCt p l e R s m args below meth c Q X D L xs PS mid N NS mc ms _) (fun h => h) k
  have hc : (zdec mid pc (.astore v) n && n == 2 && v == a && decide (a < zmx mid)) = true := hc
  rw [Bool.and_eq_true, Bool.and_eq_true, Bool.and_eq_true, beq_iff_eq, beq_iff_eq, decide_eq_true_eq] at hc
  obtain ⟨⟨⟨h1, rfl⟩, rfl⟩, h2⟩ := hc
  exact s_astore C (zdec_ok h1) h2 k.2
theorem zs_astore_n (C : zCx X D L xs PS mid N NS mc ms p R s m args meth c) {v : Fin 4}  {a b t u n : Nat} (hc : zchk mid pc (.astore_n v, a, b, t, u, n) = true) (k : zCt p l e R s m args below meth c Q X D L xs PS mid N NS mc ms (pc + n) (zop (.astore_n v, a, b, t, u, n) ls st σ)) : zW p l e R s m args below meth c Q X D L xs mid N NS mc ms pc ls st σ := by
  obtain ⟨x, s1, rfl, k⟩ := zA1_k (P := zCt p l e R s m args below meth c Q X D L xs PS mid N NS mc ms _) (fun h => h) k
  have hc : (zdec mid pc (.astore_n v) n && n == 1 && (v : Nat) == a && decide (a < zmx mid)) = true := hc
  rw [Bool.and_eq_true, Bool.and_eq_true, Bool.and_eq_true, beq_iff_eq, beq_iff_eq, decide_eq_true_eq] at hc
  obtain ⟨⟨⟨h1, rfl⟩, h3⟩, h2⟩ := hc
  exact s_astore_n C (zdec_ok h1) h3 h2 k.2
theorem zs_iinc (C : zCx X D L xs PS mid N NS mc ms p R s m args meth c) {v : Nat} {w : Int}  {a b t u n : Nat} (hc : zchk mid pc (.iinc v w, a, b, t, u, n) = true) (k : zCt p l e R s m args below meth c Q X D L xs PS mid N NS mc ms (pc + n) (zop (.iinc v w, a, b, t, u, n) ls st σ)) : zW p l e R s m args below meth c Q X D L xs mid N NS mc ms pc ls st σ := by
  obtain ⟨x, s1, he, k⟩ := zI1_k (P := zCt p l e R s m args below meth c Q X D L xs PS mid N NS mc ms _) (fun h => h) k
  have hx : zGet ls a = _ := (List.cons.inj he).1
  have hc : (zdec mid pc (.iinc v w) n && n == 3 && v == a && decide (a < zmx mid) && decide (Int32.ofInt w = zk32 b t)) = true := hc
  rw [Bool.and_eq_true, Bool.and_eq_true, Bool.and_eq_true, Bool.and_eq_true, beq_iff_eq, beq_iff_eq, decide_eq_true_eq, decide_eq_true_eq] at hc
  obtain ⟨⟨⟨⟨h1, rfl⟩, rfl⟩, h2⟩, h3⟩ := hc
  exact s_iinc C (zdec_ok h1) hx h3 h2 k.2
theorem zs_dup (C : zCx X D L xs PS mid N NS mc ms p R s m args meth c)  {a b t u n : Nat} (hc : zchk mid pc (.dup, a, b, t, u, n) = true) (k : zCt p l e R s m args below meth c Q X D L xs PS mid N NS mc ms (pc + n) (zop (.dup, a, b, t, u, n) ls st σ)) : zW p l e R s m args below meth c Q X D L xs mid N NS mc ms pc ls st σ := by
  have hc : (zdec mid pc .dup n && n == 1) = true := hc
  rw [Bool.and_eq_true, beq_iff_eq] at hc
  obtain ⟨h1, rfl⟩ := hc
  have hd := zdec_ok h1
  cases st with
  | nil => exact False.elim k
  | cons v s1 =>
    obtain ⟨hv, k⟩ := zif_k (P := zCt p l e R s m args below meth c Q X D L xs PS mid N NS mc ms (pc + 1)) (fun h => h) k
    exact s_dup C hv hd k.2
theorem zs_pop (C : zCx X D L xs PS mid N NS mc ms p R s m args meth c)  {a b t u n : Nat} (hc : zchk mid pc (.pop, a, b, t, u, n) = true) (k : zCt p l e R s m args below meth c Q X D L xs PS mid N NS mc ms (pc + n) (zop (.pop, a, b, t, u, n) ls st σ)) : zW p l e R s m args below meth c Q X D L xs mid N NS mc ms pc ls st σ := by
  have hc : (zdec mid pc .pop n && n == 1) = true := hc
  rw [Bool.and_eq_true, beq_iff_eq] at hc
  obtain ⟨h1, rfl⟩ := hc
  have hd := zdec_ok h1
  cases st with
  | nil => exact False.elim k
  | cons v s1 =>
    obtain ⟨hv, k⟩ := zif_k (P := zCt p l e R s m args below meth c Q X D L xs PS mid N NS mc ms (pc + 1)) (fun h => h) k
    exact s_pop C hv hd k.2
theorem zs_dup2 (C : zCx X D L xs PS mid N NS mc ms p R s m args meth c)  {a b t u n : Nat} (hc : zchk mid pc (.dup2, a, b, t, u, n) = true) (k : zCt p l e R s m args below meth c Q X D L xs PS mid N NS mc ms (pc + n) (zop (.dup2, a, b, t, u, n) ls st σ)) : zW p l e R s m args below meth c Q X D L xs mid N NS mc ms pc ls st σ := by
  have hc : (zdec mid pc .dup2 n && n == 1) = true := hc
  rw [Bool.and_eq_true, beq_iff_eq] at hc
  obtain ⟨h1, rfl⟩ := hc
  have hd := zdec_ok h1
  cases st with
  | nil => exact False.elim k
  | cons v s0 => cases s0 with
    | nil => exact False.elim k
    | cons w s1 =>
      obtain ⟨hv, k⟩ := zif_k (P := zCt p l e R s m args below meth c Q X D L xs PS mid N NS mc ms (pc + 1)) (fun h => h) k
      exact s_dup2 C hv.1 hv.2 hd k.2
theorem zs_goto (C : zCx X D L xs PS mid N NS mc ms p R s m args meth c) {v : Int}  {a b t u n : Nat} (hc : zchk mid pc (.goto v, a, b, t, u, n) = true) (k : zCt p l e R s m args below meth c Q X D L xs PS mid N NS mc ms (pc + n) (zop (.goto v, a, b, t, u, n) ls st σ)) : zW p l e R s m args below meth c Q X D L xs mid N NS mc ms pc ls st σ := by
  have hc : (zdec mid pc (.goto v) n && n == 3 && zjmp pc v a) = true := hc
  rw [Bool.and_eq_true, Bool.and_eq_true, beq_iff_eq, zjmp, decide_eq_true_eq] at hc
  obtain ⟨⟨h1, rfl⟩, h2⟩ := hc
  exact s_goto C (zdec_ok h1) h2 k
theorem zs_nop (C : zCx X D L xs PS mid N NS mc ms p R s m args meth c)  {a b t u n : Nat} (hc : zchk mid pc (.nop, a, b, t, u, n) = true) (k : zCt p l e R s m args below meth c Q X D L xs PS mid N NS mc ms (pc + n) (zop (.nop, a, b, t, u, n) ls st σ)) : zW p l e R s m args below meth c Q X D L xs mid N NS mc ms pc ls st σ := by
  have hc : (a == pc) = true := hc
  rw [beq_iff_eq] at hc
  subst hc
  exact k
theorem zs_ifCond_eq (C : zCx X D L xs PS mid N NS mc ms p R s m args meth c) {v : Int}  {a b t u n : Nat} (hc : zchk mid pc (.ifCond .eq v, a, b, t, u, n) = true) (k : zCt p l e R s m args below meth c Q X D L xs PS mid N NS mc ms (pc + n) (zop (.ifCond .eq v, a, b, t, u, n) ls st σ)) : zW p l e R s m args below meth c Q X D L xs mid N NS mc ms pc ls st σ := by
  have hc : (zdec mid pc (.ifCond .eq v) n && n == 3 && zjmp pc v a) = true := hc
  rw [Bool.and_eq_true, Bool.and_eq_true, beq_iff_eq, zjmp, decide_eq_true_eq] at hc
  obtain ⟨⟨h1, rfl⟩, h2⟩ := hc
  obtain ⟨x, s1, rfl, k⟩ := zI1_k (P := zCt p l e R s m args below meth c Q X D L xs PS mid N NS mc ms _) (fun h => h) k
  have k : zCt p l e R s m args below meth c Q X D L xs PS mid N NS mc ms (pc + 3) (if x = nI 0 then zJp a ls s1 σ else zNx ls s1 σ) := k
  refine s_ifCond_eq C (zdec_ok h1) h2 (fun hh => ?_) (fun hh => ?_)
  · rw [if_pos hh] at k; exact k
  · rw [if_neg hh] at k; exact k.2
theorem zs_if_icmp_eq (C : zCx X D L xs PS mid N NS mc ms p R s m args meth c) {v : Int}  {a b t u n : Nat} (hc : zchk mid pc (.if_icmp .eq v, a, b, t, u, n) = true) (k : zCt p l e R s m args below meth c Q X D L xs PS mid N NS mc ms (pc + n) (zop (.if_icmp .eq v, a, b, t, u, n) ls st σ)) : zW p l e R s m args below meth c Q X D L xs mid N NS mc ms pc ls st σ := by
  have hc : (zdec mid pc (.if_icmp .eq v) n && n == 3 && zjmp pc v a) = true := hc
  rw [Bool.and_eq_true, Bool.and_eq_true, beq_iff_eq, zjmp, decide_eq_true_eq] at hc
  obtain ⟨⟨h1, rfl⟩, h2⟩ := hc
  obtain ⟨y, s0, rfl, k⟩ := zI1_k (P := zCt p l e R s m args below meth c Q X D L xs PS mid N NS mc ms _) (fun h => h) k
  obtain ⟨x, s1, rfl, k⟩ := zI1_k (P := zCt p l e R s m args below meth c Q X D L xs PS mid N NS mc ms _) (fun h => h) k
  have k : zCt p l e R s m args below meth c Q X D L xs PS mid N NS mc ms (pc + 3) (if x = y then zJp a ls s1 σ else zNx ls s1 σ) := k
  refine s_if_icmp_eq C (zdec_ok h1) h2 (fun hh => ?_) (fun hh => ?_)
  · rw [if_pos hh] at k; exact k
  · rw [if_neg hh] at k; exact k.2
theorem zs_ifCond_ne (C : zCx X D L xs PS mid N NS mc ms p R s m args meth c) {v : Int}  {a b t u n : Nat} (hc : zchk mid pc (.ifCond .ne v, a, b, t, u, n) = true) (k : zCt p l e R s m args below meth c Q X D L xs PS mid N NS mc ms (pc + n) (zop (.ifCond .ne v, a, b, t, u, n) ls st σ)) : zW p l e R s m args below meth c Q X D L xs mid N NS mc ms pc ls st σ := by
  have hc : (zdec mid pc (.ifCond .ne v) n && n == 3 && zjmp pc v a) = true := hc
  rw [Bool.and_eq_true, Bool.and_eq_true, beq_iff_eq, zjmp, decide_eq_true_eq] at hc
  obtain ⟨⟨h1, rfl⟩, h2⟩ := hc
  obtain ⟨x, s1, rfl, k⟩ := zI1_k (P := zCt p l e R s m args below meth c Q X D L xs PS mid N NS mc ms _) (fun h => h) k
  have k : zCt p l e R s m args below meth c Q X D L xs PS mid N NS mc ms (pc + 3) (if x = nI 0 then zNx ls s1 σ else zJp a ls s1 σ) := k
  refine s_ifCond_ne C (zdec_ok h1) h2 (fun hh => ?_) (fun hh => ?_)
  · rw [if_neg hh] at k; exact k
  · rw [if_pos hh] at k; exact k.2
theorem zs_if_icmp_ne (C : zCx X D L xs PS mid N NS mc ms p R s m args meth c) {v : Int}  {a b t u n : Nat} (hc : zchk mid pc (.if_icmp .ne v, a, b, t, u, n) = true) (k : zCt p l e R s m args below meth c Q X D L xs PS mid N NS mc ms (pc + n) (zop (.if_icmp .ne v, a, b, t, u, n) ls st σ)) : zW p l e R s m args below meth c Q X D L xs mid N NS mc ms pc ls st σ := by
  have hc : (zdec mid pc (.if_icmp .ne v) n && n == 3 && zjmp pc v a) = true := hc
  rw [Bool.and_eq_true, Bool.and_eq_true, beq_iff_eq, zjmp, decide_eq_true_eq] at hc
  obtain ⟨⟨h1, rfl⟩, h2⟩ := hc
  obtain ⟨y, s0, rfl, k⟩ := zI1_k (P := zCt p l e R s m args below meth c Q X D L xs PS mid N NS mc ms _) (fun h => h) k
  obtain ⟨x, s1, rfl, k⟩ := zI1_k (P := zCt p l e R s m args below meth c Q X D L xs PS mid N NS mc ms _) (fun h => h) k
  have k : zCt p l e R s m args below meth c Q X D L xs PS mid N NS mc ms (pc + 3) (if x = y then zNx ls s1 σ else zJp a ls s1 σ) := k
  refine s_if_icmp_ne C (zdec_ok h1) h2 (fun hh => ?_) (fun hh => ?_)
  · rw [if_neg hh] at k; exact k
  · rw [if_pos hh] at k; exact k.2
theorem zs_ifCond_lt (C : zCx X D L xs PS mid N NS mc ms p R s m args meth c) {v : Int}  {a b t u n : Nat} (hc : zchk mid pc (.ifCond .lt v, a, b, t, u, n) = true) (k : zCt p l e R s m args below meth c Q X D L xs PS mid N NS mc ms (pc + n) (zop (.ifCond .lt v, a, b, t, u, n) ls st σ)) : zW p l e R s m args below meth c Q X D L xs mid N NS mc ms pc ls st σ := by
  have hc : (zdec mid pc (.ifCond .lt v) n && n == 3 && zjmp pc v a) = true := hc
  rw [Bool.and_eq_true, Bool.and_eq_true, beq_iff_eq, zjmp, decide_eq_true_eq] at hc
  obtain ⟨⟨h1, rfl⟩, h2⟩ := hc
  obtain ⟨x, s1, rfl, k⟩ := zI1_k (P := zCt p l e R s m args below meth c Q X D L xs PS mid N NS mc ms _) (fun h => h) k
  have k : zCt p l e R s m args below meth c Q X D L xs PS mid N NS mc ms (pc + 3) (if x < nI 0 then zJp a ls s1 σ else zNx ls s1 σ) := k
  refine s_ifCond_lt C (zdec_ok h1) h2 (fun hh => ?_) (fun hh => ?_)
  · rw [if_pos hh] at k; exact k
  · rw [if_neg hh] at k; exact k.2
theorem zs_if_icmp_lt (C : zCx X D L xs PS mid N NS mc ms p R s m args meth c) {v : Int}  {a b t u n : Nat} (hc : zchk mid pc (.if_icmp .lt v, a, b, t, u, n) = true) (k : zCt p l e R s m args below meth c Q X D L xs PS mid N NS mc ms (pc + n) (zop (.if_icmp .lt v, a, b, t, u, n) ls st σ)) : zW p l e R s m args below meth c Q X D L xs mid N NS mc ms pc ls st σ := by
  have hc : (zdec mid pc (.if_icmp .lt v) n && n == 3 && zjmp pc v a) = true := hc
  rw [Bool.and_eq_true, Bool.and_eq_true, beq_iff_eq, zjmp, decide_eq_true_eq] at hc
  obtain ⟨⟨h1, rfl⟩, h2⟩ := hc
  obtain ⟨y, s0, rfl, k⟩ := zI1_k (P := zCt p l e R s m args below meth c Q X D L xs PS mid N NS mc ms _) (fun h => h) k
  obtain ⟨x, s1, rfl, k⟩ := zI1_k (P := zCt p l e R s m args below meth c Q X D L xs PS mid N NS mc ms _) (fun h => h) k
  have k : zCt p l e R s m args below meth c Q X D L xs PS mid N NS mc ms (pc + 3) (if x < y then zJp a ls s1 σ else zNx ls s1 σ) := k
  refine s_if_icmp_lt C (zdec_ok h1) h2 (fun hh => ?_) (fun hh => ?_)
  · rw [if_pos hh] at k; exact k
  · rw [if_neg hh] at k; exact k.2
theorem zs_ifCond_ge (C : zCx X D L xs PS mid N NS mc ms p R s m args meth c) {v : Int}  {a b t u n : Nat} (hc : zchk mid pc (.ifCond .ge v, a, b, t, u, n) = true) (k : zCt p l e R s m args below meth c Q X D L xs PS mid N NS mc ms (pc + n) (zop (.ifCond .ge v, a, b, t, u, n) ls st σ)) : zW p l e R s m args below meth c Q X D L xs mid N NS mc ms pc ls st σ := by
  have hc : (zdec mid pc (.ifCond .ge v) n && n == 3 && zjmp pc v a) = true := hc
  rw [Bool.and_eq_true, Bool.and_eq_true, beq_iff_eq, zjmp, decide_eq_true_eq] at hc
  obtain ⟨⟨h1, rfl⟩, h2⟩ := hc
  obtain ⟨x, s1, rfl, k⟩ := zI1_k (P := zCt p l e R s m args below meth c Q X D L xs PS mid N NS mc ms _) (fun h => h) k
  have k : zCt p l e R s m args below meth c Q X D L xs PS mid N NS mc ms (pc + 3) (if x < nI 0 then zNx ls s1 σ else zJp a ls s1 σ) := k
  refine s_ifCond_ge C (zdec_ok h1) h2 (fun hh => ?_) (fun hh => ?_)
  · rw [if_neg hh] at k; exact k
  · rw [if_pos hh] at k; exact k.2
theorem zs_if_icmp_ge (C : zCx X D L xs PS mid N NS mc ms p R s m args meth c) {v : Int}  {a b t u n : Nat} (hc : zchk mid pc (.if_icmp .ge v, a, b, t, u, n) = true) (k : zCt p l e R s m args below meth c Q X D L xs PS mid N NS mc ms (pc + n) (zop (.if_icmp .ge v, a, b, t, u, n) ls st σ)) : zW p l e R s m args below meth c Q X D L xs mid N NS mc ms pc ls st σ := by
  have hc : (zdec mid pc (.if_icmp .ge v) n && n == 3 && zjmp pc v a) = true := hc
  rw [Bool.and_eq_true, Bool.and_eq_true, beq_iff_eq, zjmp, decide_eq_true_eq] at hc
  obtain ⟨⟨h1, rfl⟩, h2⟩ := hc
  obtain ⟨y, s0, rfl, k⟩ := zI1_k (P := zCt p l e R s m args below meth c Q X D L xs PS mid N NS mc ms _) (fun h => h) k
  obtain ⟨x, s1, rfl, k⟩ := zI1_k (P := zCt p l e R s m args below meth c Q X D L xs PS mid N NS mc ms _) (fun h => h) k
  have k : zCt p l e R s m args below meth c Q X D L xs PS mid N NS mc ms (pc + 3) (if x < y then zNx ls s1 σ else zJp a ls s1 σ) := k
  refine s_if_icmp_ge C (zdec_ok h1) h2 (fun hh => ?_) (fun hh => ?_)
  · rw [if_neg hh] at k; exact k
  · rw [if_pos hh] at k; exact k.2
theorem zs_ifCond_gt (C : zCx X D L xs PS mid N NS mc ms p R s m args meth c) {v : Int}  {a b t u n : Nat} (hc : zchk mid pc (.ifCond .gt v, a, b, t, u, n) = true) (k : zCt p l e R s m args below meth c Q X D L xs PS mid N NS mc ms (pc + n) (zop (.ifCond .gt v, a, b, t, u, n) ls st σ)) : zW p l e R s m args below meth c Q X D L xs mid N NS mc ms pc ls st σ := by
  have hc : (zdec mid pc (.ifCond .gt v) n && n == 3 && zjmp pc v a) = true := hc
  rw [Bool.and_eq_true, Bool.and_eq_true, beq_iff_eq, zjmp, decide_eq_true_eq] at hc
  obtain ⟨⟨h1, rfl⟩, h2⟩ := hc
  obtain ⟨x, s1, rfl, k⟩ := zI1_k (P := zCt p l e R s m args below meth c Q X D L xs PS mid N NS mc ms _) (fun h => h) k
  have k : zCt p l e R s m args below meth c Q X D L xs PS mid N NS mc ms (pc + 3) (if nI 0 < x then zJp a ls s1 σ else zNx ls s1 σ) := k
  refine s_ifCond_gt C (zdec_ok h1) h2 (fun hh => ?_) (fun hh => ?_)
  · rw [if_pos hh] at k; exact k
  · rw [if_neg hh] at k; exact k.2
theorem zs_if_icmp_gt (C : zCx X D L xs PS mid N NS mc ms p R s m args meth c) {v : Int}  {a b t u n : Nat} (hc : zchk mid pc (.if_icmp .gt v, a, b, t, u, n) = true) (k : zCt p l e R s m args below meth c Q X D L xs PS mid N NS mc ms (pc + n) (zop (.if_icmp .gt v, a, b, t, u, n) ls st σ)) : zW p l e R s m args below meth c Q X D L xs mid N NS mc ms pc ls st σ := by
  have hc : (zdec mid pc (.if_icmp .gt v) n && n == 3 && zjmp pc v a) = true := hc
  rw [Bool.and_eq_true, Bool.and_eq_true, beq_iff_eq, zjmp, decide_eq_true_eq] at hc
  obtain ⟨⟨h1, rfl⟩, h2⟩ := hc
  obtain ⟨y, s0, rfl, k⟩ := zI1_k (P := zCt p l e R s m args below meth c Q X D L xs PS mid N NS mc ms _) (fun h => h) k
  obtain ⟨x, s1, rfl, k⟩ := zI1_k (P := zCt p l e R s m args below meth c Q X D L xs PS mid N NS mc ms _) (fun h => h) k
  have k : zCt p l e R s m args below meth c Q X D L xs PS mid N NS mc ms (pc + 3) (if y < x then zJp a ls s1 σ else zNx ls s1 σ) := k
  refine s_if_icmp_gt C (zdec_ok h1) h2 (fun hh => ?_) (fun hh => ?_)
  · rw [if_pos hh] at k; exact k
  · rw [if_neg hh] at k; exact k.2
theorem zs_ifCond_le (C : zCx X D L xs PS mid N NS mc ms p R s m args meth c) {v : Int}  {a b t u n : Nat} (hc : zchk mid pc (.ifCond .le v, a, b, t, u, n) = true) (k : zCt p l e R s m args below meth c Q X D L xs PS mid N NS mc ms (pc + n) (zop (.ifCond .le v, a, b, t, u, n) ls st σ)) : zW p l e R s m args below meth c Q X D L xs mid N NS mc ms pc ls st σ := by
  have hc : (zdec mid pc (.ifCond .le v) n && n == 3 && zjmp pc v a) = true := hc
  rw [Bool.and_eq_true, Bool.and_eq_true, beq_iff_eq, zjmp, decide_eq_true_eq] at hc
  obtain ⟨⟨h1, rfl⟩, h2⟩ := hc
  obtain ⟨x, s1, rfl, k⟩ := zI1_k (P := zCt p l e R s m args below meth c Q X D L xs PS mid N NS mc ms _) (fun h => h) k
  have k : zCt p l e R s m args below meth c Q X D L xs PS mid N NS mc ms (pc + 3) (if nI 0 < x then zNx ls s1 σ else zJp a ls s1 σ) := k
  refine s_ifCond_le C (zdec_ok h1) h2 (fun hh => ?_) (fun hh => ?_)
  · rw [if_neg hh] at k; exact k
  · rw [if_pos hh] at k; exact k.2
theorem zs_if_icmp_le (C : zCx X D L xs PS mid N NS mc ms p R s m args meth c) {v : Int}  {a b t u n : Nat} (hc : zchk mid pc (.if_icmp .le v, a, b, t, u, n) = true) (k : zCt p l e R s m args below meth c Q X D L xs PS mid N NS mc ms (pc + n) (zop (.if_icmp .le v, a, b, t, u, n) ls st σ)) : zW p l e R s m args below meth c Q X D L xs mid N NS mc ms pc ls st σ := by
  have hc : (zdec mid pc (.if_icmp .le v) n && n == 3 && zjmp pc v a) = true := hc
  rw [Bool.and_eq_true, Bool.and_eq_true, beq_iff_eq, zjmp, decide_eq_true_eq] at hc
  obtain ⟨⟨h1, rfl⟩, h2⟩ := hc
  obtain ⟨y, s0, rfl, k⟩ := zI1_k (P := zCt p l e R s m args below meth c Q X D L xs PS mid N NS mc ms _) (fun h => h) k
  obtain ⟨x, s1, rfl, k⟩ := zI1_k (P := zCt p l e R s m args below meth c Q X D L xs PS mid N NS mc ms _) (fun h => h) k
  have k : zCt p l e R s m args below meth c Q X D L xs PS mid N NS mc ms (pc + 3) (if y < x then zNx ls s1 σ else zJp a ls s1 σ) := k
  refine s_if_icmp_le C (zdec_ok h1) h2 (fun hh => ?_) (fun hh => ?_)
  · rw [if_neg hh] at k; exact k
  · rw [if_pos hh] at k; exact k.2
theorem zs_tab (C : zCx X D L xs PS mid N NS mc ms p R s m args meth c) {f lo hi : Int} {offs : Array Int}  {a b t u n : Nat} (hc : zchk mid pc (.tableswitch f lo hi offs, a, b, t, u, n) = true) (k : zCt p l e R s m args below meth c Q X D L xs PS mid N NS mc ms (pc + n) (zop (.tableswitch f lo hi offs, a, b, t, u, n) ls st σ)) : zW p l e R s m args below meth c Q X D L xs mid N NS mc ms pc ls st σ := by
  obtain ⟨x, s1, rfl, k⟩ := zI1_k (P := zCt p l e R s m args below meth c Q X D L xs PS mid N NS mc ms _) (fun h => h) k
  have hc : (zdec mid pc (.tableswitch f lo hi offs) n && a == pc && decide (0 ≤ (pc : Int) + f) && offs.toList.all (fun v => decide (0 ≤ (pc : Int) + v)) && decide ((offs.size : Int) = hi - lo + 1)) = true := hc
  rw [Bool.and_eq_true, Bool.and_eq_true, Bool.and_eq_true, Bool.and_eq_true, beq_iff_eq, decide_eq_true_eq, decide_eq_true_eq, List.all_eq_true] at hc
  obtain ⟨⟨⟨⟨h1, rfl⟩, h2⟩, h3⟩, h4⟩ := hc
  exact s_tab C (zdec_ok h1) h2 (fun v hv => of_decide_eq_true (h3 v hv)) h4 k
theorem zs_look (C : zCx X D L xs PS mid N NS mc ms p R s m args meth c) {f : Int} {ps : Array (Int × Int)}  {a b t u n : Nat} (hc : zchk mid pc (.lookupswitch f ps, a, b, t, u, n) = true) (k : zCt p l e R s m args below meth c Q X D L xs PS mid N NS mc ms (pc + n) (zop (.lookupswitch f ps, a, b, t, u, n) ls st σ)) : zW p l e R s m args below meth c Q X D L xs mid N NS mc ms pc ls st σ := by
  obtain ⟨x, s1, rfl, k⟩ := zI1_k (P := zCt p l e R s m args below meth c Q X D L xs PS mid N NS mc ms _) (fun h => h) k
  have hc : (zdec mid pc (.lookupswitch f ps) n && a == pc && decide (0 ≤ (pc : Int) + f) && ps.toList.all (fun v => decide (0 ≤ (pc : Int) + v.2)) && (ps.toList.zip (ps.toList.drop 1)).all (fun (a, next) => a.1 < next.1)) = true := hc
  rw [Bool.and_eq_true, Bool.and_eq_true, Bool.and_eq_true, Bool.and_eq_true, beq_iff_eq, decide_eq_true_eq] at hc
  obtain ⟨⟨⟨⟨h1, rfl⟩, h2⟩, h3⟩, h4⟩ := hc
  rw [List.all_eq_true] at h3
  exact s_look C (zdec_ok h1) h2 (fun v hv => of_decide_eq_true (h3 v hv)) h4 k
theorem zs_getfield (C : zCx X D L xs PS mid N NS mc ms p R s m args meth c) {v : Nat}  {a b t u n : Nat} (hc : zchk mid pc (.getfield v, a, b, t, u, n) = true) (k : zCt p l e R s m args below meth c Q X D L xs PS mid N NS mc ms (pc + n) (zop (.getfield v, a, b, t, u, n) ls st σ)) : zW p l e R s m args below meth c Q X D L xs mid N NS mc ms pc ls st σ := by
  obtain ⟨r, s1, rfl, k⟩ := zA1_k (P := zCt p l e R s m args below meth c Q X D L xs PS mid N NS mc ms _) (fun h => h) k
  have hc : (zdec mid pc (.getfield v) n && n == 3 && zfldok mid v a b t) = true := hc
  rw [Bool.and_eq_true, Bool.and_eq_true, beq_iff_eq] at hc
  obtain ⟨⟨h1, rfl⟩, hf⟩ := hc
  have hf : (zWf.contains (zow mid, v, a, b) && decide (b < znf a) && decide (a < 12) && t == zft a b) = true := hf
  rw [Bool.and_eq_true, Bool.and_eq_true, Bool.and_eq_true, decide_eq_true_eq, decide_eq_true_eq, beq_iff_eq] at hf
  obtain ⟨⟨⟨f1, f2⟩, f3⟩, f4⟩ := hf
  obtain ⟨hk, k⟩ := zif_k (P := zCt p l e R s m args below meth c Q X D L xs PS mid N NS mc ms (pc + 3)) (fun h => h) k
  have hq := zkt_ok a f3 b f2
  rw [← f4] at hq
  match t, f4, k, hq with
  | 0, f4, k, _ => exact s_get C (zdec_ok h1) hk (zcont f1) f2 f3 (w := .int (sI σ r b)) (by unfold zfv; rw [← f4]; rfl) rfl k.2
  | 1, f4, k, _ => exact s_get C (zdec_ok h1) hk (zcont f1) f2 f3 (w := .long (sL σ r b)) (by unfold zfv; rw [← f4]; rfl) rfl k.2
  | 2, f4, k, _ => exact s_get C (zdec_ok h1) hk (zcont f1) f2 f3 (w := .ref (sR σ r b)) (by unfold zfv; rw [← f4]; rfl) rfl k.2
  | 3, f4, k, _ => exact s_get C (zdec_ok h1) hk (zcont f1) f2 f3 (w := .int (sI σ r b)) (by unfold zfv; rw [← f4]; rfl) rfl k.2
  | t + 4, f4, k, hq => exact absurd hq (by unfold zkt; split <;> first | omega | exact Bool.false_ne_true)
theorem zs_putfield (C : zCx X D L xs PS mid N NS mc ms p R s m args meth c) {v : Nat}  {a b t u n : Nat} (hc : zchk mid pc (.putfield v, a, b, t, u, n) = true) (k : zCt p l e R s m args below meth c Q X D L xs PS mid N NS mc ms (pc + n) (zop (.putfield v, a, b, t, u, n) ls st σ)) : zW p l e R s m args below meth c Q X D L xs mid N NS mc ms pc ls st σ := by
  have hc : (zdec mid pc (.putfield v) n && n == 3 && zfldok mid v a b t && (if u = 1 then (zTf a b).2.2.2 && zIni.contains mid && zow mid == a else !(zTf a b).2.2.2)) = true := hc
  rw [Bool.and_eq_true, Bool.and_eq_true, Bool.and_eq_true, beq_iff_eq] at hc
  obtain ⟨⟨⟨h1, rfl⟩, hf⟩, hu⟩ := hc
  have hf : (zWf.contains (zow mid, v, a, b) && decide (b < znf a) && decide (a < 12) && t == zft a b) = true := hf
  rw [Bool.and_eq_true, Bool.and_eq_true, Bool.and_eq_true, decide_eq_true_eq, decide_eq_true_eq, beq_iff_eq] at hf
  obtain ⟨⟨⟨f1, f2⟩, f3⟩, f4⟩ := hf
  have hfin : (zTf a b).2.2.2 = false ∨ ((zTf a b).2.2.2 = true ∧ mid ∈ zIni ∧ zow mid = a) := by
    by_cases hu1 : u = 1
    · rw [if_pos hu1, Bool.and_eq_true, Bool.and_eq_true, beq_iff_eq] at hu
      exact Or.inr ⟨hu.1.1, zcont hu.1.2, hu.2⟩
    · rw [if_neg hu1, Bool.not_eq_true'] at hu
      exact Or.inl hu
  have hd := zdec_ok h1
  have hq := zkt_ok a f3 b f2
  rw [← f4] at hq
  match t, f4, k, hq with
  | 0, f4, k, hq =>
    obtain ⟨x, s0, rfl, k⟩ := zI1_k (P := zCt p l e R s m args below meth c Q X D L xs PS mid N NS mc ms (pc + 3)) (fun h => h) k
    obtain ⟨r, s1, rfl, k⟩ := zA1_k (P := zCt p l e R s m args below meth c Q X D L xs PS mid N NS mc ms (pc + 3)) (fun h => h) k
    obtain ⟨hk, k⟩ := zif_k (P := zCt p l e R s m args below meth c Q X D L xs PS mid N NS mc ms (pc + 3)) (fun h => h) k
    have hy : zyt a b = .int := by
      cases hz : zyt a b <;> rw [hz] at hq <;> first | rfl | exact absurd hq Bool.false_ne_true
    refine s_put (w := .int x) (τ := setI σ r b x) C hd hk (zcont f1) f2 f3 hfin (by rw [hy]; rfl) (by rw [hy]; rfl) rfl (fun q hq i => if_neg (fun z => hq z.1)) (fun _ _ _ => rfl) (fun _ _ _ => rfl) (fun j => ?_) k.2
    by_cases hj : j = b
    · subst hj; rw [if_pos rfl]; unfold zfv; rw [← f4]; show Value.int (if r = r ∧ j = j then x else _) = _; rw [if_pos ⟨rfl, rfl⟩]; rfl
    · rw [if_neg hj]; unfold zfv; rw [show sI (setI σ r b x) r j = sI σ r j from if_neg (fun z => hj z.2)]; rfl
  | 1, f4, k, hq =>
    obtain ⟨x, s0, rfl, k⟩ := zL1_k (P := zCt p l e R s m args below meth c Q X D L xs PS mid N NS mc ms (pc + 3)) (fun h => h) k
    obtain ⟨r, s1, rfl, k⟩ := zA1_k (P := zCt p l e R s m args below meth c Q X D L xs PS mid N NS mc ms (pc + 3)) (fun h => h) k
    obtain ⟨hk, k⟩ := zif_k (P := zCt p l e R s m args below meth c Q X D L xs PS mid N NS mc ms (pc + 3)) (fun h => h) k
    have hy : zyt a b = .long := by
      cases hz : zyt a b <;> rw [hz] at hq <;> first | rfl | exact absurd hq Bool.false_ne_true
    refine s_put (w := .long x) (τ := setL σ r b x) C hd hk (zcont f1) f2 f3 hfin (by rw [hy]; rfl) (by rw [hy]; rfl) rfl (fun _ _ _ => rfl) (fun q hq i => if_neg (fun z => hq z.1)) (fun _ _ _ => rfl) (fun j => ?_) k.2
    by_cases hj : j = b
    · subst hj; rw [if_pos rfl]; unfold zfv; rw [← f4]; show Value.long (if r = r ∧ j = j then x else _) = _; rw [if_pos ⟨rfl, rfl⟩]; rfl
    · rw [if_neg hj]; unfold zfv; rw [show sL (setL σ r b x) r j = sL σ r j from if_neg (fun z => hj z.2)]; rfl
  | 2, f4, k, hq =>
    obtain ⟨x, s0, rfl, k⟩ := zA1_k (P := zCt p l e R s m args below meth c Q X D L xs PS mid N NS mc ms (pc + 3)) (fun h => h) k
    obtain ⟨r, s1, rfl, k⟩ := zA1_k (P := zCt p l e R s m args below meth c Q X D L xs PS mid N NS mc ms (pc + 3)) (fun h => h) k
    obtain ⟨hk, k⟩ := zif_k (P := zCt p l e R s m args below meth c Q X D L xs PS mid N NS mc ms (pc + 3)) (fun h => h) k
    have hy : (∃ cn, zyt a b = .object cn) ∨ ∃ ty, zyt a b = .array ty := by
      cases hz : zyt a b <;> rw [hz] at hq <;> first | exact Or.inl ⟨_, rfl⟩ | exact Or.inr ⟨_, rfl⟩ | exact absurd hq Bool.false_ne_true
    have hv : zE X x = .null ∨ ∃ q, zE X x = .ref q := by
      unfold zE
      cases zEo X x with
      | none => exact Or.inl rfl
      | some q => exact Or.inr ⟨q, rfl⟩
    have hnf : narrow (zyt a b) (zE X x) = zE X x ∧ fits (zyt a b) (zE X x) = true := by
      rcases hy with ⟨cn, hy⟩ | ⟨ty, hy⟩ <;> rcases hv with hv | ⟨q, hv⟩ <;> rw [hy, hv] <;> exact ⟨rfl, rfl⟩
    refine s_put (w := .ref x) (τ := setR σ r b x) C hd hk (zcont f1) f2 f3 hfin hnf.1 hnf.2 rfl (fun _ _ _ => rfl) (fun _ _ _ => rfl) (fun q hq i => if_neg (fun z => hq z.1)) (fun j => ?_) k.2
    by_cases hj : j = b
    · subst hj; rw [if_pos rfl]; unfold zfv; rw [← f4]; show zE X (if r = r ∧ j = j then x else _) = _; rw [if_pos ⟨rfl, rfl⟩]; rfl
    · rw [if_neg hj]; unfold zfv; rw [show sR (setR σ r b x) r j = sR σ r j from if_neg (fun z => hj z.2)]; rfl
  | 3, f4, k, hq =>
    obtain ⟨x, s0, rfl, k⟩ := zI1_k (P := zCt p l e R s m args below meth c Q X D L xs PS mid N NS mc ms (pc + 3)) (fun h => h) k
    obtain ⟨r, s1, rfl, k⟩ := zA1_k (P := zCt p l e R s m args below meth c Q X D L xs PS mid N NS mc ms (pc + 3)) (fun h => h) k
    obtain ⟨hk, k⟩ := zif_k (P := zCt p l e R s m args below meth c Q X D L xs PS mid N NS mc ms (pc + 3)) (fun h => h) k
    have hy : zyt a b = .boolean := by
      cases hz : zyt a b <;> rw [hz] at hq <;> first | rfl | exact absurd hq Bool.false_ne_true
    have hnf : narrow (zyt a b) (.int x) = .int x ∧ fits (zyt a b) (.int x) = true := by
      rw [hy]; rcases hk.2 with rfl | rfl <;> exact ⟨by decide +kernel, by decide +kernel⟩
    refine s_put (w := .int x) (τ := setI σ r b x) C hd hk.1 (zcont f1) f2 f3 hfin hnf.1 hnf.2 rfl (fun q hq i => if_neg (fun z => hq z.1)) (fun _ _ _ => rfl) (fun _ _ _ => rfl) (fun j => ?_) k.2
    by_cases hj : j = b
    · subst hj; rw [if_pos rfl]; unfold zfv; rw [← f4]; show Value.int (if r = r ∧ j = j then x else _) = _; rw [if_pos ⟨rfl, rfl⟩]; rfl
    · rw [if_neg hj]; unfold zfv; rw [show sI (setI σ r b x) r j = sI σ r j from if_neg (fun z => hj z.2)]; rfl
  | t + 4, f4, k, hq => exact absurd hq (by unfold zkt; split <;> first | omega | exact Bool.false_ne_true)
theorem zs_iaload (C : zCx X D L xs PS mid N NS mc ms p R s m args meth c)  {a b t u n : Nat} (hc : zchk mid pc (.iaload, a, b, t, u, n) = true) (k : zCt p l e R s m args below meth c Q X D L xs PS mid N NS mc ms (pc + n) (zop (.iaload, a, b, t, u, n) ls st σ)) : zW p l e R s m args below meth c Q X D L xs mid N NS mc ms pc ls st σ := by
  have hc : (zdec mid pc .iaload n && n == 1) = true := hc
  rw [Bool.and_eq_true, beq_iff_eq] at hc
  obtain ⟨h1, rfl⟩ := hc
  have hd := zdec_ok h1
  obtain ⟨i, s0, rfl, k⟩ := zI1_k (P := zCt p l e R s m args below meth c Q X D L xs PS mid N NS mc ms _) (fun h => h) k
  obtain ⟨r, s1, rfl, k⟩ := zA1_k (P := zCt p l e R s m args below meth c Q X D L xs PS mid N NS mc ms _) (fun h => h) k
  obtain ⟨hk, k⟩ := zif_k (P := zCt p l e R s m args below meth c Q X D L xs PS mid N NS mc ms (pc + 1)) (fun h => h) k
  rcases hk with ⟨hk | hk, hi⟩
  · exact s_iaload C hd hk hi k.2
  · intro H locs cells slots lr h1 h2 h3 h4 h5 h6 h7 h8
    have h9 : r = 0 := by
      rcases Nat.eq_zero_or_pos r with q | q
      · exact q
      · exfalso
        obtain ⟨cA, g1, g2, g3, g4, g5, g6⟩ := h1
        exact g6.2 r q hk
    exact s_ialoadS C hd h9 hi k.2 H locs cells slots lr h1 h2 h3 h4 h5 h6 h7 h8
theorem zs_baload (C : zCx X D L xs PS mid N NS mc ms p R s m args meth c)  {a b t u n : Nat} (hc : zchk mid pc (.baload, a, b, t, u, n) = true) (k : zCt p l e R s m args below meth c Q X D L xs PS mid N NS mc ms (pc + n) (zop (.baload, a, b, t, u, n) ls st σ)) : zW p l e R s m args below meth c Q X D L xs mid N NS mc ms pc ls st σ := by
  have hc : (zdec mid pc .baload n && n == 1) = true := hc
  rw [Bool.and_eq_true, beq_iff_eq] at hc
  obtain ⟨h1, rfl⟩ := hc
  have hd := zdec_ok h1
  obtain ⟨i, s0, rfl, k⟩ := zI1_k (P := zCt p l e R s m args below meth c Q X D L xs PS mid N NS mc ms _) (fun h => h) k
  obtain ⟨r, s1, rfl, k⟩ := zA1_k (P := zCt p l e R s m args below meth c Q X D L xs PS mid N NS mc ms _) (fun h => h) k
  obtain ⟨hk, k⟩ := zif_k (P := zCt p l e R s m args below meth c Q X D L xs PS mid N NS mc ms (pc + 1)) (fun h => h) k
  exact s_baload C hd hk.1 hk.2 k.2
theorem zs_laload (C : zCx X D L xs PS mid N NS mc ms p R s m args meth c)  {a b t u n : Nat} (hc : zchk mid pc (.laload, a, b, t, u, n) = true) (k : zCt p l e R s m args below meth c Q X D L xs PS mid N NS mc ms (pc + n) (zop (.laload, a, b, t, u, n) ls st σ)) : zW p l e R s m args below meth c Q X D L xs mid N NS mc ms pc ls st σ := by
  have hc : (zdec mid pc .laload n && n == 1) = true := hc
  rw [Bool.and_eq_true, beq_iff_eq] at hc
  obtain ⟨h1, rfl⟩ := hc
  have hd := zdec_ok h1
  obtain ⟨i, s0, rfl, k⟩ := zI1_k (P := zCt p l e R s m args below meth c Q X D L xs PS mid N NS mc ms _) (fun h => h) k
  obtain ⟨r, s1, rfl, k⟩ := zA1_k (P := zCt p l e R s m args below meth c Q X D L xs PS mid N NS mc ms _) (fun h => h) k
  obtain ⟨hk, k⟩ := zif_k (P := zCt p l e R s m args below meth c Q X D L xs PS mid N NS mc ms (pc + 1)) (fun h => h) k
  exact s_laload C hd hk.1 hk.2 k.2
theorem zs_aaload (C : zCx X D L xs PS mid N NS mc ms p R s m args meth c)  {a b t u n : Nat} (hc : zchk mid pc (.aaload, a, b, t, u, n) = true) (k : zCt p l e R s m args below meth c Q X D L xs PS mid N NS mc ms (pc + n) (zop (.aaload, a, b, t, u, n) ls st σ)) : zW p l e R s m args below meth c Q X D L xs mid N NS mc ms pc ls st σ := by
  have hc : (zdec mid pc .aaload n && n == 1) = true := hc
  rw [Bool.and_eq_true, beq_iff_eq] at hc
  obtain ⟨h1, rfl⟩ := hc
  have hd := zdec_ok h1
  obtain ⟨i, s0, rfl, k⟩ := zI1_k (P := zCt p l e R s m args below meth c Q X D L xs PS mid N NS mc ms _) (fun h => h) k
  obtain ⟨r, s1, rfl, k⟩ := zA1_k (P := zCt p l e R s m args below meth c Q X D L xs PS mid N NS mc ms _) (fun h => h) k
  obtain ⟨hk, k⟩ := zif_k (P := zCt p l e R s m args below meth c Q X D L xs PS mid N NS mc ms (pc + 1)) (fun h => h) k
  exact s_aaload C hd hk.1 hk.2.1 hk.2.2 k.2
theorem zs_iastore (C : zCx X D L xs PS mid N NS mc ms p R s m args meth c)  {a b t u n : Nat} (hc : zchk mid pc (.iastore, a, b, t, u, n) = true) (k : zCt p l e R s m args below meth c Q X D L xs PS mid N NS mc ms (pc + n) (zop (.iastore, a, b, t, u, n) ls st σ)) : zW p l e R s m args below meth c Q X D L xs mid N NS mc ms pc ls st σ := by
  have hc : (zdec mid pc .iastore n && n == 1) = true := hc
  rw [Bool.and_eq_true, beq_iff_eq] at hc
  obtain ⟨h1, rfl⟩ := hc
  have hd := zdec_ok h1
  obtain ⟨x, s9, rfl, k⟩ := zI1_k (P := zCt p l e R s m args below meth c Q X D L xs PS mid N NS mc ms _) (fun h => h) k
  obtain ⟨i, s0, rfl, k⟩ := zI1_k (P := zCt p l e R s m args below meth c Q X D L xs PS mid N NS mc ms _) (fun h => h) k
  obtain ⟨r, s1, rfl, k⟩ := zA1_k (P := zCt p l e R s m args below meth c Q X D L xs PS mid N NS mc ms _) (fun h => h) k
  obtain ⟨hk, k⟩ := zif_k (P := zCt p l e R s m args below meth c Q X D L xs PS mid N NS mc ms (pc + 1)) (fun h => h) k
  exact s_iastore C hd hk.1 hk.2 k.2
theorem zs_bastore (C : zCx X D L xs PS mid N NS mc ms p R s m args meth c)  {a b t u n : Nat} (hc : zchk mid pc (.bastore, a, b, t, u, n) = true) (k : zCt p l e R s m args below meth c Q X D L xs PS mid N NS mc ms (pc + n) (zop (.bastore, a, b, t, u, n) ls st σ)) : zW p l e R s m args below meth c Q X D L xs mid N NS mc ms pc ls st σ := by
  have hc : (zdec mid pc .bastore n && n == 1) = true := hc
  rw [Bool.and_eq_true, beq_iff_eq] at hc
  obtain ⟨h1, rfl⟩ := hc
  have hd := zdec_ok h1
  obtain ⟨x, s9, rfl, k⟩ := zI1_k (P := zCt p l e R s m args below meth c Q X D L xs PS mid N NS mc ms _) (fun h => h) k
  obtain ⟨i, s0, rfl, k⟩ := zI1_k (P := zCt p l e R s m args below meth c Q X D L xs PS mid N NS mc ms _) (fun h => h) k
  obtain ⟨r, s1, rfl, k⟩ := zA1_k (P := zCt p l e R s m args below meth c Q X D L xs PS mid N NS mc ms _) (fun h => h) k
  obtain ⟨hk, k⟩ := zif_k (P := zCt p l e R s m args below meth c Q X D L xs PS mid N NS mc ms (pc + 1)) (fun h => h) k
  exact s_bastore C hd hk.1 hk.2 k.2
theorem zs_lastore (C : zCx X D L xs PS mid N NS mc ms p R s m args meth c)  {a b t u n : Nat} (hc : zchk mid pc (.lastore, a, b, t, u, n) = true) (k : zCt p l e R s m args below meth c Q X D L xs PS mid N NS mc ms (pc + n) (zop (.lastore, a, b, t, u, n) ls st σ)) : zW p l e R s m args below meth c Q X D L xs mid N NS mc ms pc ls st σ := by
  have hc : (zdec mid pc .lastore n && n == 1) = true := hc
  rw [Bool.and_eq_true, beq_iff_eq] at hc
  obtain ⟨h1, rfl⟩ := hc
  have hd := zdec_ok h1
  obtain ⟨x, s9, rfl, k⟩ := zL1_k (P := zCt p l e R s m args below meth c Q X D L xs PS mid N NS mc ms _) (fun h => h) k
  obtain ⟨i, s0, rfl, k⟩ := zI1_k (P := zCt p l e R s m args below meth c Q X D L xs PS mid N NS mc ms _) (fun h => h) k
  obtain ⟨r, s1, rfl, k⟩ := zA1_k (P := zCt p l e R s m args below meth c Q X D L xs PS mid N NS mc ms _) (fun h => h) k
  obtain ⟨hk, k⟩ := zif_k (P := zCt p l e R s m args below meth c Q X D L xs PS mid N NS mc ms (pc + 1)) (fun h => h) k
  exact s_lastore C hd hk.1 hk.2 k.2
theorem zs_aastore (C : zCx X D L xs PS mid N NS mc ms p R s m args meth c)  {a b t u n : Nat} (hc : zchk mid pc (.aastore, a, b, t, u, n) = true) (k : zCt p l e R s m args below meth c Q X D L xs PS mid N NS mc ms (pc + n) (zop (.aastore, a, b, t, u, n) ls st σ)) : zW p l e R s m args below meth c Q X D L xs mid N NS mc ms pc ls st σ := by
  have hc : (zdec mid pc .aastore n && n == 1) = true := hc
  rw [Bool.and_eq_true, beq_iff_eq] at hc
  obtain ⟨h1, rfl⟩ := hc
  have hd := zdec_ok h1
  obtain ⟨x, s9, rfl, k⟩ := zA1_k (P := zCt p l e R s m args below meth c Q X D L xs PS mid N NS mc ms _) (fun h => h) k
  obtain ⟨i, s0, rfl, k⟩ := zI1_k (P := zCt p l e R s m args below meth c Q X D L xs PS mid N NS mc ms _) (fun h => h) k
  obtain ⟨r, s1, rfl, k⟩ := zA1_k (P := zCt p l e R s m args below meth c Q X D L xs PS mid N NS mc ms _) (fun h => h) k
  obtain ⟨hk, k⟩ := zif_k (P := zCt p l e R s m args below meth c Q X D L xs PS mid N NS mc ms (pc + 1)) (fun h => h) k
  exact s_aastore C hd hk.1 hk.2.1 hk.2.2.1 hk.2.2.2 k.2
theorem zs_arraylength (C : zCx X D L xs PS mid N NS mc ms p R s m args meth c)  {a b t u n : Nat} (hc : zchk mid pc (.arraylength, a, b, t, u, n) = true) (k : zCt p l e R s m args below meth c Q X D L xs PS mid N NS mc ms (pc + n) (zop (.arraylength, a, b, t, u, n) ls st σ)) : zW p l e R s m args below meth c Q X D L xs mid N NS mc ms pc ls st σ := by
  have hc : (zdec mid pc .arraylength n && n == 1) = true := hc
  rw [Bool.and_eq_true, beq_iff_eq] at hc
  obtain ⟨h1, rfl⟩ := hc
  have hd := zdec_ok h1
  obtain ⟨r, s1, rfl, k⟩ := zA1_k (P := zCt p l e R s m args below meth c Q X D L xs PS mid N NS mc ms _) (fun h => h) k
  obtain ⟨hk, k⟩ := zif_k (P := zCt p l e R s m args below meth c Q X D L xs PS mid N NS mc ms (pc + 1)) (fun h => h) k
  rcases hk with hk | hk | hk
  · exact s_alen C hd (Or.inl hk) k.2
  · intro H locs cells slots lr h1 h2 h3 h4 h5 h6 h7 h8
    have h9 : r = 0 := by
      rcases Nat.eq_zero_or_pos r with q | q
      · exact q
      · exfalso
        obtain ⟨cA, g1, g2, g3, g4, g5, g6⟩ := h1
        exact g6.2 r q hk
    exact s_alenS C hd h9 k.2 H locs cells slots lr h1 h2 h3 h4 h5 h6 h7 h8
  · exact s_alen C hd (Or.inr hk) k.2
theorem zs_new (C : zCx X D L xs PS mid N NS mc ms p R s m args meth c) {v : Nat}  {a b t u n : Nat} (hc : zchk mid pc (.new v, a, b, t, u, n) = true) (k : zCt p l e R s m args below meth c Q X D L xs PS mid N NS mc ms (pc + n) (zop (.new v, a, b, t, u, n) ls st σ)) : zW p l e R s m args below meth c Q X D L xs mid N NS mc ms pc ls st σ := by
  have hc : (zdec mid pc (.new v) n && n == 3 && zWl.contains (zow mid, v, a) && zWb.contains a && zWk.contains a && decide (a < 12)) = true := hc
  rw [Bool.and_eq_true, Bool.and_eq_true, Bool.and_eq_true, Bool.and_eq_true, Bool.and_eq_true, beq_iff_eq, decide_eq_true_eq] at hc
  obtain ⟨⟨⟨⟨⟨h1, rfl⟩, h2⟩, h3⟩, h4⟩, h5⟩ := hc
  exact s_new C (zdec_ok h1) (zcont h2) (zcont h3) (zcont h4) h5 k.1.1 k.1.2 k.2
theorem zs_newarray (C : zCx X D L xs PS mid N NS mc ms p R s m args meth c) {v : ArrayType}  {a b t u n : Nat} (hc : zchk mid pc (.newarray v, a, b, t, u, n) = true) (k : zCt p l e R s m args below meth c Q X D L xs PS mid N NS mc ms (pc + n) (zop (.newarray v, a, b, t, u, n) ls st σ)) : zW p l e R s m args below meth c Q X D L xs mid N NS mc ms pc ls st σ := by
  obtain ⟨x, s1, rfl, k⟩ := zI1_k (P := zCt p l e R s m args below meth c Q X D L xs PS mid N NS mc ms _) (fun h => h) k
  cases v with
  | int =>
    have hc : (zdec mid pc (.newarray .int) n && n == 2 && a == 1) = true := hc
    rw [Bool.and_eq_true, Bool.and_eq_true, beq_iff_eq, beq_iff_eq] at hc
    obtain ⟨⟨h1, h2⟩, h3⟩ := hc
    subst h2 h3
    obtain ⟨hk, k⟩ := zif_k (P := zCt p l e R s m args below meth c Q X D L xs PS mid N NS mc ms (pc + 2)) (fun h => h) k
    exact s_newarray C (zdec_ok h1) (Or.inl ⟨rfl, rfl⟩) hk.1 hk.2 k.1.1 k.1.2 k.2
  | long =>
    have hc : (zdec mid pc (.newarray .long) n && n == 2 && a == 2) = true := hc
    rw [Bool.and_eq_true, Bool.and_eq_true, beq_iff_eq, beq_iff_eq] at hc
    obtain ⟨⟨h1, h2⟩, h3⟩ := hc
    subst h2 h3
    obtain ⟨hk, k⟩ := zif_k (P := zCt p l e R s m args below meth c Q X D L xs PS mid N NS mc ms (pc + 2)) (fun h => h) k
    exact s_newarray C (zdec_ok h1) (Or.inr (Or.inl ⟨rfl, rfl⟩)) hk.1 hk.2 k.1.1 k.1.2 k.2
  | byte =>
    have hc : (zdec mid pc (.newarray .byte) n && n == 2 && a == 3) = true := hc
    rw [Bool.and_eq_true, Bool.and_eq_true, beq_iff_eq, beq_iff_eq] at hc
    obtain ⟨⟨h1, h2⟩, h3⟩ := hc
    subst h2 h3
    obtain ⟨hk, k⟩ := zif_k (P := zCt p l e R s m args below meth c Q X D L xs PS mid N NS mc ms (pc + 2)) (fun h => h) k
    exact s_newarray C (zdec_ok h1) (Or.inr (Or.inr ⟨rfl, rfl⟩)) hk.1 hk.2 k.1.1 k.1.2 k.2
  | _ => exact absurd (show (zdec mid pc _ n && n == 2 && false) = true from hc) (by rw [Bool.and_false]; exact Bool.false_ne_true)
theorem zs_anewarray (C : zCx X D L xs PS mid N NS mc ms p R s m args meth c) {v : Nat}  {a b t u n : Nat} (hc : zchk mid pc (.anewarray v, a, b, t, u, n) = true) (k : zCt p l e R s m args below meth c Q X D L xs PS mid N NS mc ms (pc + n) (zop (.anewarray v, a, b, t, u, n) ls st σ)) : zW p l e R s m args below meth c Q X D L xs mid N NS mc ms pc ls st σ := by
  obtain ⟨x, s1, rfl, k⟩ := zI1_k (P := zCt p l e R s m args below meth c Q X D L xs PS mid N NS mc ms _) (fun h => h) k
  have hc : (zdec mid pc (.anewarray v) n && n == 3 && zWl.contains (zow mid, v, a - 40) && (a == 41 || a == 45 || a == 48)) = true := hc
  rw [Bool.and_eq_true, Bool.and_eq_true, Bool.and_eq_true, beq_iff_eq] at hc
  obtain ⟨⟨⟨h1, rfl⟩, h2⟩, h3⟩ := hc
  obtain ⟨hk, k⟩ := zif_k (P := zCt p l e R s m args below meth c Q X D L xs PS mid N NS mc ms (pc + 3)) (fun h => h) k
  exact s_anew C (zdec_ok h1) (by simpa [or_assoc] using h3) (zcont h2) hk.1 hk.2 k.1.1 k.1.2 k.2
theorem zPop_k : ∀ (n : Nat) (st acc as s1 : List Value), zPop n st acc = some (as, s1) → ∃ As : List Value, As.length = n ∧ as = As ++ acc ∧ st = As.reverse ++ s1 := by
  intro n
  induction n with
  | zero => intro st acc as s1 h; cases h; exact ⟨[], rfl, rfl, rfl⟩
  | succ n ih =>
    intro st acc as s1 h
    cases st with
    | nil => cases h
    | cons v st =>
      obtain ⟨As, h1, h2, h3⟩ := ih st (v :: acc) as s1 h
      exact ⟨As ++ [v], by rw [List.length_append, h1]; rfl, by rw [h2, List.append_assoc]; rfl, by rw [h3, List.reverse_append]; rfl⟩
theorem zInv_k {P : zR → Prop} (hP : P none → False) {a b t u : Nat} {ls st : List Value} {σ : MS} (ht : t = 0 ∨ t = 5) (k : P (zInvoke a b t u ls st σ)) : ∃ As s1, As.length = b ∧ st = As.reverse ++ s1 ∧ zWid s1 ≤ 8 ∧ (t = 0 → sK σ (zRecv As) = (0, u)) ∧ P (zCl a As ls s1 σ) := by
  have e : zInvoke a b t u ls st σ = (match zPop b st [] with
    | none => none
    | some (as, s1) => if zWid s1 ≤ 8 ∧ (t = 0 → sK σ (zRecv as) = (0, u)) then zCl a as ls s1 σ else none) := by
    rcases ht with rfl | rfl <;> rfl
  rw [e] at k
  cases hp : zPop b st [] with
  | none => rw [hp] at k; exact (hP k).elim
  | some z =>
    obtain ⟨as, s1⟩ := z
    rw [hp] at k
    obtain ⟨⟨h1, h2⟩, k⟩ := zif_k hP k
    obtain ⟨As, h3, h4, h5⟩ := zPop_k b st [] as s1 hp
    rw [List.append_nil] at h4
    subst h4
    exact ⟨as, s1, h3, h5, h1, h2, k⟩
theorem zRecv_k {As : List Value} {σ : MS} {u N : Nat} (hN : σ.1.length < zNul) (h : sK σ (zRecv As) = (0, u)) : ∃ r Bs, As = .ref r :: Bs ∧ sK σ r = (0, u) := by
  have hlt : zRecv As < σ.1.length := sK_lt (by rw [h]; exact (by decide : (0 : Nat) ≠ 99))
  cases As with
  | nil => exact absurd hlt (Nat.not_lt.mpr (Nat.le_of_lt hN))
  | cons v Bs =>
    cases v with
    | ref r => exact ⟨r, Bs, rfl, h⟩
    | _ => exact absurd hlt (Nat.not_lt.mpr (Nat.le_of_lt hN))
theorem zs_virt (C : zCx X D L xs PS mid N NS mc ms p R s m args meth c) (hPS : zPSok X PS) (HS : ∀ (a b u v t : Nat), decode (zby mid) pc = .ok (.invokevirtual v, 3) → (zow mid, v, t) ∈ zWt → zCt p l e R s m args below meth c Q X D L xs PS mid N NS mc ms (pc + 3) (zInvoke a b t u ls st σ) → zW p l e R s m args below meth c Q X D L xs mid N NS mc ms pc ls st σ) {v : Nat}  {a b t u n : Nat} (hc : zchk mid pc (.invokevirtual v, a, b, t, u, n) = true) (k : zCt p l e R s m args below meth c Q X D L xs PS mid N NS mc ms (pc + n) (zop (.invokevirtual v, a, b, t, u, n) ls st σ)) : zW p l e R s m args below meth c Q X D L xs mid N NS mc ms pc ls st σ := by
  have hc : (zdec mid pc (.invokevirtual v) n && n == 3 && (if t = 0 then (zWn.contains (zow mid, v, a) || zWm.contains (zow mid, v, a)) && zcalok a && zWi.contains a && zWv.contains a && zow a == u && decide (u < 12) && b == zna a + 1 else zWt.contains (zow mid, v, t))) = true := hc
  rw [Bool.and_eq_true, Bool.and_eq_true, beq_iff_eq] at hc
  obtain ⟨⟨hd, rfl⟩, hq⟩ := hc
  have hd := zdec_ok hd
  by_cases ht : t = 0
  · subst ht
    rw [if_pos rfl, Bool.and_eq_true, Bool.and_eq_true, Bool.and_eq_true, Bool.and_eq_true, Bool.and_eq_true, Bool.and_eq_true, Bool.or_eq_true, beq_iff_eq, beq_iff_eq, decide_eq_true_eq] at hq
    obtain ⟨⟨⟨⟨⟨⟨x1, hcal⟩, x2⟩, x3⟩, x4⟩, x5⟩, x6⟩ := hq
    have hcal : (zWc.contains a && zWk.contains (zow a) && decide (zow a ≠ 12)) = true := hcal
    rw [Bool.and_eq_true, Bool.and_eq_true] at hcal
    obtain ⟨⟨y1, y2⟩, -⟩ := hcal
    have y1 := zcont y1
    have y2 := zcont y2
    obtain ⟨y3, y4⟩ := zow_ok a y1
    have y5 := zcc_ok a y1
    have y6 := zcl_ok a y1
    obtain ⟨As, s1, b1, rfl, b3, b4, d, rv, ρ, c1, ⟨c2, c3⟩, ⟨c4, c5, c6, c7⟩, c8, k9⟩ := zInv_k (P := zCt p l e R s m args below meth c Q X D L xs PS mid N NS mc ms (pc + 3)) (fun h => h) (Or.inl rfl) k
    intro H locs cells slots lr h1 h2 h3 h4 h5 h6 h7 h8
    obtain ⟨r, Bs, rfl, hr⟩ := zRecv_k (N := N) (by have := C.2.2.2.2.2.2.2.2.2.1; omega) (b4 rfl)
    rw [List.length_cons] at b1
    rw [List.reverse_cons, List.append_assoc, List.singleton_append] at h8 ⊢
    exact s_virt C hPS hd (x1.elim (fun h => Or.inr (zcont h)) (fun h => Or.inl (zcont h))) y1 y2 (zcont x2) (zcont x3) y5 (by rw [y6]; congr 1; omega) y4 x4 x5 c2 c3 b3 hr (fun hz => (c1 y1 (by rw [List.all_cons, hz]; rfl)).1 (by omega)) c8 c4 c5 c6 c7 k9 H locs cells slots lr h1 h2 h3 h4 h5 h6 h7 h8
  · rw [if_neg ht] at hq
    exact HS a b u v t hd (zcont hq) k
theorem zs_stat (C : zCx X D L xs PS mid N NS mc ms p R s m args meth c) (hPS : zPSok X PS) {v : Nat}  {a b t u n : Nat} (hc : zchk mid pc (.invokestatic v, a, b, t, u, n) = true) (k : zCt p l e R s m args below meth c Q X D L xs PS mid N NS mc ms (pc + n) (zop (.invokestatic v, a, b, t, u, n) ls st σ)) : zW p l e R s m args below meth c Q X D L xs mid N NS mc ms pc ls st σ := by
  have hc : (zdec mid pc (.invokestatic v) n && n == 3 && (if t = 5 then zWm.contains (zow mid, v, a) && zcalok a && zWs.contains a && b == zna a else t == 2 && zWa.contains (zow mid, v))) = true := hc
  rw [Bool.and_eq_true, Bool.and_eq_true, beq_iff_eq] at hc
  obtain ⟨⟨hd, rfl⟩, hq⟩ := hc
  have hd := zdec_ok hd
  by_cases ht : t = 5
  · subst ht
    rw [if_pos rfl, Bool.and_eq_true, Bool.and_eq_true, Bool.and_eq_true, beq_iff_eq] at hq
    obtain ⟨⟨⟨x1, hcal⟩, x2⟩, x3⟩ := hq
    have hcal : (zWc.contains a && zWk.contains (zow a) && decide (zow a ≠ 12)) = true := hcal
    rw [Bool.and_eq_true, Bool.and_eq_true] at hcal
    obtain ⟨⟨y1, y2⟩, -⟩ := hcal
    have y1 := zcont y1
    have y2 := zcont y2
    obtain ⟨y3, y4⟩ := zow_ok a y1
    have y5 := zcc_ok a y1
    have y6 := zcl_ok a y1
    obtain ⟨As, s1, b1, rfl, b3, -, d, rv, ρ, c1, ⟨c2, c3⟩, ⟨c4, c5, c6, c7⟩, c8, k⟩ := zInv_k (P := zCt p l e R s m args below meth c Q X D L xs PS mid N NS mc ms (pc + 3)) (fun h => h) (Or.inr rfl) k
    by_cases hm : zow a = 14
    · intro H locs cells slots lr h1 h2 h3 h4 h5 h6 h7 h8
      exact s_math C hd (zcont x1) y1 (zcont x2) b3 ((c1 y1 (by rw [← List.all_reverse]; rw [List.all_append, Bool.and_eq_true] at h8; exact h8.1)).2 hm) k H locs cells slots lr h1 h2 h3 h4 h5 h6 h7 h8
    · exact s_stat C hPS hd (zcont x1) y1 y2 (zcont x2) y5 (by rw [y6]; congr 1; omega) y4 y3 c2 c3 b3 (fun hz => (c1 y1 hz).1 hm) c8 c4 c5 c6 c7 k
  · rw [if_neg ht, Bool.and_eq_true] at hq
    have ht2 : t = 2 := by simpa using hq.1
    subst ht2
    obtain ⟨w1, s1, rfl, k⟩ := zI1_k (P := zCt p l e R s m args below meth c Q X D L xs PS mid N NS mc ms (pc + 3)) (fun h => h) k
    obtain ⟨w2, s2, rfl, k⟩ := zI1_k (P := zCt p l e R s m args below meth c Q X D L xs PS mid N NS mc ms (pc + 3)) (fun h => h) k
    obtain ⟨q, s3, rfl, k⟩ := zA1_k (P := zCt p l e R s m args below meth c Q X D L xs PS mid N NS mc ms (pc + 3)) (fun h => h) k
    obtain ⟨w3, s4, rfl, k⟩ := zI1_k (P := zCt p l e R s m args below meth c Q X D L xs PS mid N NS mc ms (pc + 3)) (fun h => h) k
    obtain ⟨r, s5, rfl, k⟩ := zA1_k (P := zCt p l e R s m args below meth c Q X D L xs PS mid N NS mc ms (pc + 3)) (fun h => h) k
    obtain ⟨⟨d1, d2, d3, d4, d5, d6⟩, k⟩ := zif_k (P := zCt p l e R s m args below meth c Q X D L xs PS mid N NS mc ms (pc + 3)) (fun h => h) k
    by_cases hI : (sK σ r).1 = 1 ∧ (sK σ q).1 = 1
    · rw [if_pos hI] at k
      exact s_copyI C hd (zcont hq.2) d1 d2 d3 d4 d5 d6 hI.1 hI.2 k.2
    · rw [if_neg hI] at k
      obtain ⟨hL, k⟩ := zif_k (P := zCt p l e R s m args below meth c Q X D L xs PS mid N NS mc ms (pc + 3)) (fun h => h) k
      exact s_copyL C hd (zcont hq.2) d1 d2 d3 d4 d5 d6 hL.1 hL.2 k.2
theorem zs_spec (C : zCx X D L xs PS mid N NS mc ms p R s m args meth c) (hPS : zPSok X PS) {v : Nat}  {a b t u n : Nat} (hc : zchk mid pc (.invokespecial v, a, b, t, u, n) = true) (k : zCt p l e R s m args below meth c Q X D L xs PS mid N NS mc ms (pc + n) (zop (.invokespecial v, a, b, t, u, n) ls st σ)) : zW p l e R s m args below meth c Q X D L xs mid N NS mc ms pc ls st σ := by
  have hc : (zdec mid pc (.invokespecial v) n && n == 3 && (if t = 0 then (zWn.contains (zow mid, v, a) || zWm.contains (zow mid, v, a)) && zcalok a && zWi.contains a && zIni.contains a && zow a == u && decide (u < 12) && b == zna a + 1 else t == 1 && zWo.contains (zow mid, v))) = true := hc
  rw [Bool.and_eq_true, Bool.and_eq_true, beq_iff_eq] at hc
  obtain ⟨⟨hd, rfl⟩, hq⟩ := hc
  have hd := zdec_ok hd
  by_cases ht : t = 0
  · subst ht
    rw [if_pos rfl, Bool.and_eq_true, Bool.and_eq_true, Bool.and_eq_true, Bool.and_eq_true, Bool.and_eq_true, Bool.and_eq_true, Bool.or_eq_true, beq_iff_eq, beq_iff_eq, decide_eq_true_eq] at hq
    obtain ⟨⟨⟨⟨⟨⟨x1, hcal⟩, x2⟩, x3⟩, x4⟩, x5⟩, x6⟩ := hq
    have hcal : (zWc.contains a && zWk.contains (zow a) && decide (zow a ≠ 12)) = true := hcal
    rw [Bool.and_eq_true, Bool.and_eq_true] at hcal
    obtain ⟨⟨y1, y2⟩, -⟩ := hcal
    have y1 := zcont y1
    have y2 := zcont y2
    obtain ⟨y3, y4⟩ := zow_ok a y1
    have y5 := zcc_ok a y1
    have y6 := zcl_ok a y1
    obtain ⟨As, s1, b1, rfl, b3, b4, d, rv, ρ, c1, ⟨c2, c3⟩, ⟨c4, c5, c6, c7⟩, c8, k9⟩ := zInv_k (P := zCt p l e R s m args below meth c Q X D L xs PS mid N NS mc ms (pc + 3)) (fun h => h) (Or.inl rfl) k
    intro H locs cells slots lr h1 h2 h3 h4 h5 h6 h7 h8
    obtain ⟨r, Bs, rfl, hr⟩ := zRecv_k (N := N) (by have := C.2.2.2.2.2.2.2.2.2.1; omega) (b4 rfl)
    rw [List.length_cons] at b1
    rw [List.reverse_cons, List.append_assoc, List.singleton_append] at h8 ⊢
    exact s_spec C hPS hd (x1.elim (fun h => Or.inr (zcont h)) (fun h => Or.inl (zcont h))) y1 y2 (zcont x2) (zcont x3) (zir_ok a (zcont x3)) y5 (by rw [y6]; congr 1; omega) y4 y3 c2 c3 b3 hr (fun hz => (c1 y1 (by rw [List.all_cons, hz]; rfl)).1 (by omega)) c8 c4 c5 c6 c7 k9 H locs cells slots lr h1 h2 h3 h4 h5 h6 h7 h8
  · rw [if_neg ht, Bool.and_eq_true] at hq
    have ht1 : t = 1 := by simpa using hq.1
    subst ht1
    obtain ⟨r, s1, rfl, k⟩ := zA1_k (P := zCt p l e R s m args below meth c Q X D L xs PS mid N NS mc ms (pc + 3)) (fun h => h) k
    obtain ⟨hk, k⟩ := zif_k (P := zCt p l e R s m args below meth c Q X D L xs PS mid N NS mc ms (pc + 3)) (fun h => h) k
    exact s_objinit C hd (zcont hq.2) hk.1 hk.2 k.2
theorem zs_ireturn (C : zCx X D L xs PS mid N NS mc ms p R s m args meth c)  {a b t u n : Nat} (hc : zchk mid pc (.ireturn, a, b, t, u, n) = true) (k : zCt p l e R s m args below meth c Q X D L xs PS mid N NS mc ms (pc + n) (zop (.ireturn, a, b, t, u, n) ls st σ)) : zW p l e R s m args below meth c Q X D L xs mid N NS mc ms pc ls st σ := by
  have hc : (zdec mid pc .ireturn n && n == 1 && decide (zrt mid = some (if t = 1 then .boolean else .int))) = true := hc
  rw [Bool.and_eq_true, Bool.and_eq_true, beq_iff_eq, decide_eq_true_eq] at hc
  obtain ⟨⟨hd, rfl⟩, hq⟩ := hc
  have hd := zdec_ok hd
  cases st with
  | nil => exact False.elim k
  | cons v s1 => cases s1 with
    | cons w s2 => cases v <;> exact False.elim k
    | nil => cases v with
      | int x =>
        obtain ⟨hk, k⟩ := zif_k (P := zCt p l e R s m args below meth c Q X D L xs PS mid N NS mc ms (pc + 1)) (fun h => h) k
        refine s_iret C hd hq ?_ k.1 k.2.1 k.2.2
        by_cases ht : t = 1
        · rw [if_pos ht]
          rcases hk ht with rfl | rfl <;> decide +kernel
        · rw [if_neg ht]
          rfl
      | _ => exact False.elim k
theorem zs_lreturn (C : zCx X D L xs PS mid N NS mc ms p R s m args meth c)  {a b t u n : Nat} (hc : zchk mid pc (.lreturn, a, b, t, u, n) = true) (k : zCt p l e R s m args below meth c Q X D L xs PS mid N NS mc ms (pc + n) (zop (.lreturn, a, b, t, u, n) ls st σ)) : zW p l e R s m args below meth c Q X D L xs mid N NS mc ms pc ls st σ := by
  have hc : (zdec mid pc .lreturn n && n == 1 && decide (zrt mid = some .long)) = true := hc
  rw [Bool.and_eq_true, Bool.and_eq_true, beq_iff_eq, decide_eq_true_eq] at hc
  obtain ⟨⟨hd, rfl⟩, hq⟩ := hc
  have hd := zdec_ok hd
  cases st with
  | nil => exact False.elim k
  | cons v s1 => cases s1 with
    | cons w s2 => cases v <;> exact False.elim k
    | nil => cases v with
      | long x => exact s_lret C hd hq k.1 k.2.1 k.2.2
      | _ => exact False.elim k
theorem zs_areturn (C : zCx X D L xs PS mid N NS mc ms p R s m args meth c)  {a b t u n : Nat} (hc : zchk mid pc (.areturn, a, b, t, u, n) = true) (k : zCt p l e R s m args below meth c Q X D L xs PS mid N NS mc ms (pc + n) (zop (.areturn, a, b, t, u, n) ls st σ)) : zW p l e R s m args below meth c Q X D L xs mid N NS mc ms pc ls st σ := by
  have hc : (zdec mid pc .areturn n && n == 1 && (match zrt mid with
    | some (.object _) => true
    | _ => false)) = true := hc
  rw [Bool.and_eq_true, Bool.and_eq_true, beq_iff_eq] at hc
  obtain ⟨⟨hd, rfl⟩, hq⟩ := hc
  have hd := zdec_ok hd
  have hr : ∃ cn, zrt mid = some (.object cn) := by
    split at hq
    · next cn e => exact ⟨_, e⟩
    · cases hq
  obtain ⟨cn, hr⟩ := hr
  cases st with
  | nil => exact False.elim k
  | cons v s1 => cases s1 with
    | cons w s2 => cases v <;> exact False.elim k
    | nil => cases v with
      | ref x => exact s_aret C hd hr k.1 k.2.1 k.2.2
      | _ => exact False.elim k
theorem zs_return (C : zCx X D L xs PS mid N NS mc ms p R s m args meth c)  {a b t u n : Nat} (hc : zchk mid pc (.return_, a, b, t, u, n) = true) (k : zCt p l e R s m args below meth c Q X D L xs PS mid N NS mc ms (pc + n) (zop (.return_, a, b, t, u, n) ls st σ)) : zW p l e R s m args below meth c Q X D L xs mid N NS mc ms pc ls st σ := by
  have hc : (zdec mid pc .return_ n && n == 1 && decide (zrt mid = none)) = true := hc
  rw [Bool.and_eq_true, Bool.and_eq_true, beq_iff_eq, decide_eq_true_eq] at hc
  obtain ⟨⟨hd, rfl⟩, hq⟩ := hc
  have hd := zdec_ok hd
  cases st with
  | nil => exact s_vret C hd hq k.1 k.2.1 k.2.2
  | cons v s1 => exact False.elim k
/-- any instruction -/
theorem zstep (C : zCx X D L xs PS mid N NS mc ms p R s m args meth c) (hPS : zPSok X PS) (HS : ∀ (a b u v t : Nat), decode (zby mid) pc = .ok (.invokevirtual v, 3) → (zow mid, v, t) ∈ zWt → zCt p l e R s m args below meth c Q X D L xs PS mid N NS mc ms (pc + 3) (zInvoke a b t u ls st σ) → zW p l e R s m args below meth c Q X D L xs mid N NS mc ms pc ls st σ) (o : zOp) (hc : zchk mid pc o = true) (k : zCt p l e R s m args below meth c Q X D L xs PS mid N NS mc ms (pc + o.2.2.2.2.2) (zop o ls st σ)) : zW p l e R s m args below meth c Q X D L xs mid N NS mc ms pc ls st σ := by
  obtain ⟨i, a, b, t, u, n⟩ := o
  cases i with
  | iadd => exact zs_iadd C  hc k
  | isub => exact zs_isub C  hc k
  | imul => exact zs_imul C  hc k
  | iand => exact zs_iand C  hc k
  | ior => exact zs_ior C  hc k
  | ixor => exact zs_ixor C  hc k
  | ishl => exact zs_ishl C  hc k
  | ishr => exact zs_ishr C  hc k
  | iushr => exact zs_iushr C  hc k
  | idiv => exact zs_idiv C  hc k
  | irem => exact zs_irem C  hc k
  | ladd => exact zs_ladd C  hc k
  | lsub => exact zs_lsub C  hc k
  | lmul => exact zs_lmul C  hc k
  | land => exact zs_land C  hc k
  | lor => exact zs_lor C  hc k
  | lcmp => exact zs_lcmp C  hc k
  | ldiv => exact zs_ldiv C  hc k
  | lrem => exact zs_lrem C  hc k
  | lshl => exact zs_lshl C  hc k
  | i2l => exact zs_i2l C  hc k
  | l2i => exact zs_l2i C  hc k
  | i2b => exact zs_i2b C  hc k
  | i2s => exact zs_i2s C  hc k
  | iconst _ => exact zs_iconst C  hc k
  | bipush _ => exact zs_bipush C  hc k
  | sipush _ => exact zs_sipush C  hc k
  | lconst _ => exact zs_lconst C  hc k
  | ldc2_w _ => exact zs_ldc2_w C  hc k
  | ldc_w _ => exact zs_ldc_w C  hc k
  | ldc _ => exact zs_ldc C  hc k
  | iload _ => exact zs_iload C  hc k
  | iload_n _ => exact zs_iload_n C  hc k
  | istore _ => exact zs_istore C  hc k
  | istore_n _ => exact zs_istore_n C  hc k
  | lload _ => exact zs_lload C  hc k
  | lload_n _ => exact zs_lload_n C  hc k
  | lstore _ => exact zs_lstore C  hc k
  | lstore_n _ => exact zs_lstore_n C  hc k
  | aload _ => exact zs_aload C  hc k
  | aload_n _ => exact zs_aload_n C  hc k
  | astore _ => exact zs_astore C  hc k
  | astore_n _ => exact zs_astore_n C  hc k
  | iinc _ _ => exact zs_iinc C  hc k
  | dup => exact zs_dup C  hc k
  | pop => exact zs_pop C  hc k
  | dup2 => exact zs_dup2 C  hc k
  | goto _ => exact zs_goto C  hc k
  | nop => exact zs_nop C  hc k
  | tableswitch _ _ _ _ => exact zs_tab C  hc k
  | lookupswitch _ _ => exact zs_look C  hc k
  | getfield _ => exact zs_getfield C  hc k
  | putfield _ => exact zs_putfield C  hc k
  | iaload => exact zs_iaload C  hc k
  | baload => exact zs_baload C  hc k
  | laload => exact zs_laload C  hc k
  | aaload => exact zs_aaload C  hc k
  | iastore => exact zs_iastore C  hc k
  | bastore => exact zs_bastore C  hc k
  | lastore => exact zs_lastore C  hc k
  | aastore => exact zs_aastore C  hc k
  | arraylength => exact zs_arraylength C  hc k
  | new _ => exact zs_new C  hc k
  | newarray _ => exact zs_newarray C  hc k
  | anewarray _ => exact zs_anewarray C  hc k
  | invokevirtual _ => exact zs_virt C hPS HS hc k
  | invokestatic _ => exact zs_stat C hPS hc k
  | invokespecial _ => exact zs_spec C hPS hc k
  | ireturn => exact zs_ireturn C  hc k
  | lreturn => exact zs_lreturn C  hc k
  | areturn => exact zs_areturn C  hc k
  | return_ => exact zs_return C  hc k
  | ifCond cc v => cases cc with
    | eq => exact zs_ifCond_eq C hc k
    | ne => exact zs_ifCond_ne C hc k
    | lt => exact zs_ifCond_lt C hc k
    | ge => exact zs_ifCond_ge C hc k
    | gt => exact zs_ifCond_gt C hc k
    | le => exact zs_ifCond_le C hc k
  | if_icmp cc v => cases cc with
    | eq => exact zs_if_icmp_eq C hc k
    | ne => exact zs_if_icmp_ne C hc k
    | lt => exact zs_if_icmp_lt C hc k
    | ge => exact zs_if_icmp_ge C hc k
    | gt => exact zs_if_icmp_gt C hc k
    | le => exact zs_if_icmp_le C hc k
  | _ => exact False.elim k
end ZS
