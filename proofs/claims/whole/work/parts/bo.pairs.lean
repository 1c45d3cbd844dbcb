/-! EVERY CALL OF BOTH SIDES AS A STEP (out of gen8.py) -/
section PRS
variable {σ : MS} {a b u w : Nat} {s : Sx}
theorem X_tray (I : IXc σ a b u w s) (S : SOk s) (v1 : Int32) (v2 : Int32) (v3 : Int32) : XC σ 145 [.ref 1, .int v1, .int v2, .int v3] (.int (uTray s.T v1 v2 v3).1.1) ((s.wT (uTray s.T v1 v2 v3).2).wS (uTray s.T v1 v2 v3).1.2) := by
  obtain ⟨τ, f, H, c⟩ := x_tray (d := 27) I.x I.t v1 v2 v3
  exact XC.tra I S f H c
theorem M_tray (J : IMc σ s) (S : SOk s) (v1 : Int32) (v2 : Int32) (v3 : Int32) : MC σ 230 [.ref 120, .int v1, .int v2, .int v3] (.int (uTray s.T v1 v2 v3).1.1) ((s.wT (uTray s.T v1 v2 v3).2).wS (uTray s.T v1 v2 v3).1.2) := by
  obtain ⟨τ, f, M, c⟩ := m_tray (d := 28) J.m.m J.t S.t v1 v2 v3
  exact MC.tra J f M c
theorem X_write (I : IXc σ a b u w s) (S : SOk s) (v1 : Int32) (v2 : Int32) (v3 : Int64) : XC σ 146 [.ref 1, .int v1, .int v2, .long v3] (.int (uWrite s.T v1 v2 v3).1.1) ((s.wT (uWrite s.T v1 v2 v3).2).wS (uWrite s.T v1 v2 v3).1.2) := by
  obtain ⟨τ, f, H, c⟩ := x_write (d := 27) I.x I.t S.t v1 v2 v3
  exact XC.tra I S f H c
theorem M_write (J : IMc σ s) (S : SOk s) (v1 : Int32) (v2 : Int32) (v3 : Int64) : MC σ 232 [.ref 120, .int v1, .int v2, .long v3] (.int (uWrite s.T v1 v2 v3).1.1) ((s.wT (uWrite s.T v1 v2 v3).2).wS (uWrite s.T v1 v2 v3).1.2) := by
  obtain ⟨τ, f, M, c⟩ := m_write (d := 27) J.m.m J.t S.t v1 v2 v3
  exact MC.tra J f M c
theorem X_read (I : IXc σ a b u w s) (S : SOk s) (v1 : Int32) (v2 : Int32) : XC σ 147 [.ref 1, .int v1, .int v2] (.long (qRead s.T v1 v2).1) (s.wS (qRead s.T v1 v2).2) := XC.ask I S (fun K => x_read (d := 27) I.x I.t S.t v1 v2)
theorem M_read (J : IMc σ s) (S : SOk s) (v1 : Int32) (v2 : Int32) : MC σ 233 [.ref 120, .int v1, .int v2] (.long (qRead s.T v1 v2).1) (s.wS (qRead s.T v1 v2).2) := MC.ask J (fun K => m_read (d := 27) J.m.m J.t S.t v1 v2)
theorem X_pour (I : IXc σ a b u w s) (S : SOk s) (v1 : Int32) (v2 : Int32) (v3 : Int32) (v4 : Int32) (v5 : Int32) : XC σ 148 [.ref 1, .int v1, .int v2, .int v3, .int v4, .int v5] (.int (bI (decide ((uPour s.T v1 v2 v3 v4 v5).1 = 0)))) ((s.wT (uPour s.T v1 v2 v3 v4 v5).2).wS (nI (uPour s.T v1 v2 v3 v4 v5).1)) := by
  obtain ⟨τ, f, H, c⟩ := x_pour (d := 27) I.x I.t S.t v1 v2 v3 v4 v5
  exact XC.tra I S f H c
theorem M_pour (J : IMc σ s) (S : SOk s) (v1 : Int32) (v2 : Int32) (v3 : Int32) (v4 : Int32) (v5 : Int32) : MC σ 234 [.ref 120, .int v1, .int v2, .int v3, .int v4, .int v5] (.int (bI (decide ((uPour s.T v1 v2 v3 v4 v5).1 = 0)))) ((s.wT (uPour s.T v1 v2 v3 v4 v5).2).wS (nI (uPour s.T v1 v2 v3 v4 v5).1)) := by
  obtain ⟨τ, f, M, c⟩ := m_pour (d := 28) J.m.m J.t S.t v1 v2 v3 v4 v5
  exact MC.tra J f M c
theorem X_feed (I : IXc σ a b u w s) (S : SOk s) (v1 : Int32) (v2 : Int32) (v3 : Int32) (v4 : Int32) (v5 : Int32) : XC σ 149 [.ref 1, .int v1, .int v2, .int v3, .int v4, .int v5] (.int (uFeed s.P v1 v2 v3 v4 v5).1) (s.wP (uFeed s.P v1 v2 v3 v4 v5).2) := by
  obtain ⟨τ, f, H, c⟩ := x_feed (d := 28) I.x I.p S.p.1 v1 v2 v3 v4 v5
  exact XC.tap I S f H c
theorem M_feed (J : IMc σ s) (S : SOk s) (v1 : Int32) (v2 : Int32) (v3 : Int32) (v4 : Int32) (v5 : Int32) : MC σ 236 [.ref 120, .int v1, .int v2, .int v3, .int v4, .int v5] (.int (uFeed s.P v1 v2 v3 v4 v5).1) (s.wP (uFeed s.P v1 v2 v3 v4 v5).2) := by
  obtain ⟨τ, f, M, c⟩ := m_feed (d := 28) J.m.m J.p S.p.1 v1 v2 v3 v4 v5
  exact MC.tap J f M c
theorem X_told (I : IXc σ a b u w s) (S : SOk s) (v1 : Int32) : XC σ 153 [.ref 1, .int v1] (.int (s.A.qTold v1).1) (s.wS (s.A.qTold v1).2) := XC.ask I S (fun K => x_told (d := 26) I.x I.o S.o v1)
theorem M_told (J : IMc σ s) (S : SOk s) (v1 : Int32) : MC σ 291 [.ref 120, .int v1] (.int (s.A.qTold v1).1) (s.wS (s.A.qTold v1).2) := MC.ask J (fun K => m_told (d := 24) J.m S.o v1)
theorem X_trait (I : IXc σ a b u w s) (S : SOk s) (v1 : Int32) (v2 : Int32) : XC σ 154 [.ref 1, .int v1, .int v2] (.int (s.A.qTrait v1 v2).1) (s.wS (s.A.qTrait v1 v2).2) := XC.ask I S (fun K => x_trait (d := 28) I.x I.o S.o v1 v2)
theorem M_trait (J : IMc σ s) (S : SOk s) (v1 : Int32) (v2 : Int32) : MC σ 292 [.ref 120, .int v1, .int v2] (.int (s.A.qTrait v1 v2).1) (s.wS (s.A.qTrait v1 v2).2) := MC.ask J (fun K => m_trait (d := 27) J.m S.o v1 v2)
theorem X_traits (I : IXc σ a b u w s) (S : SOk s) (v1 : Int32) : XC σ 155 [.ref 1, .int v1] (.int (s.A.qTraits v1).1) (s.wS (s.A.qTraits v1).2) := XC.ask I S (fun K => x_traits (d := 28) I.x I.o S.o v1)
theorem M_traits (J : IMc σ s) (S : SOk s) (v1 : Int32) : MC σ 293 [.ref 120, .int v1] (.int (s.A.qTraits v1).1) (s.wS (s.A.qTraits v1).2) := MC.ask J (fun K => m_traits (d := 27) J.m S.o v1)
theorem X_cellOf (I : IXc σ a b u w s) (S : SOk s) (v1 : Int32) : XC σ 156 [.ref 1, .int v1] (.int (s.A.qCellOf v1).1) (s.wS (s.A.qCellOf v1).2) := XC.ask I S (fun K => x_cellOf (d := 27) I.x I.o S.o v1)
theorem M_cellOf (J : IMc σ s) (S : SOk s) (v1 : Int32) : MC σ 294 [.ref 120, .int v1] (.int (s.A.qCellOf v1).1) (s.wS (s.A.qCellOf v1).2) := MC.ask J (fun K => m_cellOf (d := 27) J.m S.o v1)
theorem X_paperIn (I : IXc σ a b u w s) (S : SOk s) (v1 : Int32) : XC σ 157 [.ref 1, .int v1] (.int (s.A.qPaperIn v1).1) (s.wS (s.A.qPaperIn v1).2) := XC.ask I S (fun K => x_paperIn (d := 27) I.x I.o S.o v1)
theorem M_paperIn (J : IMc σ s) (S : SOk s) (v1 : Int32) : MC σ 295 [.ref 120, .int v1] (.int (s.A.qPaperIn v1).1) (s.wS (s.A.qPaperIn v1).2) := MC.ask J (fun K => m_paperIn (d := 26) J.m S.o v1)
theorem X_clerk (I : IXc σ a b u w s) (S : SOk s) (v1 : Int32) : XC σ 158 [.ref 1, .int v1] (.int (s.A.qClerk v1).1) (s.wS (s.A.qClerk v1).2) := XC.ask I S (fun K => x_clerk (d := 28) I.x I.o S.o v1)
theorem M_clerk (J : IMc σ s) (S : SOk s) (v1 : Int32) : MC σ 296 [.ref 120, .int v1] (.int (s.A.qClerk v1).1) (s.wS (s.A.qClerk v1).2) := MC.ask J (fun K => m_clerk (d := 28) J.m S.o v1)
theorem X_file (I : IXc σ a b u w s) (S : SOk s) (v1 : Int32) : XC σ 159 [.ref 1, .int v1] (.int (s.A.uFile v1).1.1) ((s.wA (s.A.uFile v1).2).wS (s.A.uFile v1).1.2) := by
  obtain ⟨τ, f, H, c⟩ := x_file (d := 27) I.x I.o S.o (by have := I.ab; have := I.uw; omega) v1
  exact XC.ofc I S f H c
theorem M_file (J : IMc σ s) (S : SOk s) (v1 : Int32) : MC σ 299 [.ref 120, .int v1] (.int (s.A.uFile v1).1.1) ((s.wA (s.A.uFile v1).2).wS (s.A.uFile v1).1.2) := by
  obtain ⟨τ, f, M, c⟩ := m_file (d := 23) J.m S.o v1
  exact MC.mf J S f M c
theorem X_lay (I : IXc σ a b u w s) (S : SOk s) (v1 : Int32) (v2 : Int32) : XC σ 160 [.ref 1, .int v1, .int v2] (.int (s.A.uLay v1 v2).1.1) ((s.wA (s.A.uLay v1 v2).2).wS (s.A.uLay v1 v2).1.2) := by
  obtain ⟨τ, f, H, c⟩ := x_lay (d := 27) I.x I.o S.o (by have := I.ab; have := I.uw; omega) v1 v2
  exact XC.ofc I S f H c
theorem M_lay (J : IMc σ s) (S : SOk s) (v1 : Int32) (v2 : Int32) : MC σ 300 [.ref 120, .int v1, .int v2] (.int (s.A.uLay v1 v2).1.1) ((s.wA (s.A.uLay v1 v2).2).wS (s.A.uLay v1 v2).1.2) := by
  obtain ⟨τ, f, M, c⟩ := m_lay (d := 26) J.m S.o v1 v2
  exact MC.mf J S f M c
theorem X_take (I : IXc σ a b u w s) (S : SOk s) (v1 : Int32) : XC σ 161 [.ref 1, .int v1] (.int (s.A.uTake v1).1.1) ((s.wA (s.A.uTake v1).2).wS (s.A.uTake v1).1.2) := by
  obtain ⟨τ, f, H, c⟩ := x_take (d := 27) I.x I.o S.o (by have := I.ab; have := I.uw; omega) v1
  exact XC.ofc I S f H c
theorem M_take (J : IMc σ s) (S : SOk s) (v1 : Int32) : MC σ 302 [.ref 120, .int v1] (.int (s.A.uTake v1).1.1) ((s.wA (s.A.uTake v1).2).wS (s.A.uTake v1).1.2) := by
  obtain ⟨τ, f, M, c⟩ := m_take (d := 25) J.m S.o v1
  exact MC.mf J S f M c
theorem X_swap (I : IXc σ a b u w s) (S : SOk s) (v1 : Int32) (v2 : Int32) : XC σ 162 [.ref 1, .int v1, .int v2] (.int (s.A.uSwap v1 v2).1.1) ((s.wA (s.A.uSwap v1 v2).2).wS (s.A.uSwap v1 v2).1.2) := by
  obtain ⟨τ, f, H, c⟩ := x_swap (d := 26) I.x I.o S.o (by have := I.ab; have := I.uw; omega) v1 v2
  exact XC.ofc I S f H c
theorem M_swap (J : IMc σ s) (S : SOk s) (v1 : Int32) (v2 : Int32) : MC σ 304 [.ref 120, .int v1, .int v2] (.int (s.A.uSwap v1 v2).1.1) ((s.wA (s.A.uSwap v1 v2).2).wS (s.A.uSwap v1 v2).1.2) := by
  obtain ⟨τ, f, M, c⟩ := m_swap (d := 24) J.m S.o v1 v2
  exact MC.mf J S f M c
theorem X_sort (I : IXc σ a b u w s) (S : SOk s) : XC σ 163 [.ref 1] (.int (qA (nI s.A.mv)).1) ((s.wA s.A.srt).wS (qA (nI s.A.mv)).2) := by
  obtain ⟨τ, f, H, c⟩ := x_sort (d := 26) I.x I.o S.o (by have := I.ab; have := I.uw; omega)
  exact XC.ofc I S f H c
theorem M_sort (J : IMc σ s) (S : SOk s) : MC σ 307 [.ref 120] (.int (qA (nI s.A.mv)).1) ((s.wA s.A.srt).wS (qA (nI s.A.mv)).2) := by
  obtain ⟨τ, f, M, c⟩ := m_sort (d := 24) J.m S.o
  exact MC.mf J S f M c
theorem X_stain (I : IXc σ a b u w s) (S : SOk s) (v1 : Int32) (v2 : Int32) (v3 : Bool) : XC σ 164 [.ref 1, .int v1, .int v2, .int (bI v3)] (.int (s.A.uStain v1 v2 v3).1.1) ((s.wA (s.A.uStain v1 v2 v3).2).wS (s.A.uStain v1 v2 v3).1.2) := by
  obtain ⟨τ, f, H, c⟩ := x_stain (d := 27) I.x I.o S.o (by have := I.ab; have := I.uw; omega) v1 v2 v3
  exact XC.ofc I S f H c
theorem M_stain (J : IMc σ s) (S : SOk s) (v1 : Int32) (v2 : Int32) (v3 : Bool) : MC σ 308 [.ref 120, .int v1, .int v2, .int (bI v3)] (.int (s.A.uStain v1 v2 v3).1.1) ((s.wA (s.A.uStain v1 v2 v3).2).wS (s.A.uStain v1 v2 v3).1.2) := by
  obtain ⟨τ, f, M, c⟩ := m_stain (d := 27) J.m S.o v1 v2 v3
  exact MC.mf J S f M c
theorem X_weigh (I : IXc σ a b u w s) (S : SOk s) (v1 : Int32) (v2 : Int32) : XC σ 165 [.ref 1, .int v1, .int v2] (.int (s.A.uWeigh v1 v2).1.1) ((s.wA (s.A.uWeigh v1 v2).2).wS (s.A.uWeigh v1 v2).1.2) := by
  obtain ⟨τ, f, H, c⟩ := x_weigh (d := 27) I.x I.o S.o (by have := I.ab; have := I.uw; omega) v1 v2
  exact XC.ofc I S f H c
theorem M_weigh (J : IMc σ s) (S : SOk s) (v1 : Int32) (v2 : Int32) : MC σ 309 [.ref 120, .int v1, .int v2] (.int (s.A.uWeigh v1 v2).1.1) ((s.wA (s.A.uWeigh v1 v2).2).wS (s.A.uWeigh v1 v2).1.2) := by
  obtain ⟨τ, f, M, c⟩ := m_weigh (d := 27) J.m S.o v1 v2
  exact MC.mf J S f M c
theorem X_walk (I : IXc σ a b u w s) (S : SOk s) (v1 : Int32) (v2 : Int32) : XC σ 166 [.ref 1, .int v1, .int v2] (.int (s.A.uWalk v1 v2).1.1) ((s.wA (s.A.uWalk v1 v2).2).wS (s.A.uWalk v1 v2).1.2) := by
  obtain ⟨τ, f, H, c⟩ := x_walk (d := 28) I.x I.o S.o (by have := I.ab; have := I.uw; omega) v1 v2
  exact XC.ofc I S f H c
theorem M_walk (J : IMc σ s) (S : SOk s) (v1 : Int32) (v2 : Int32) : MC σ 310 [.ref 120, .int v1, .int v2] (.int (s.A.uWalk v1 v2).1.1) ((s.wA (s.A.uWalk v1 v2).2).wS (s.A.uWalk v1 v2).1.2) := by
  obtain ⟨τ, f, M, c⟩ := m_walk (d := 27) J.m S.o v1 v2
  exact MC.mf J S f M c
theorem X_ask (I : IXc σ a b u w s) (S : SOk s) (v1 : Int32) (v2 : Int32) : XC σ 167 [.ref 1, .int v1, .int v2] (.int (s.A.uAsk v1 v2).1.1) ((s.wA (s.A.uAsk v1 v2).2).wS (s.A.uAsk v1 v2).1.2) := by
  obtain ⟨τ, f, H, c⟩ := x_ask (d := 25) I.x I.o S.o (by have := I.ab; have := I.uw; omega) v1 v2
  exact XC.ofc I S f H c
theorem M_ask (J : IMc σ s) (S : SOk s) (v1 : Int32) (v2 : Int32) : MC σ 324 [.ref 120, .int v1, .int v2] (.int (s.A.uAsk v1 v2).1.1) ((s.wA (s.A.uAsk v1 v2).2).wS (s.A.uAsk v1 v2).1.2) := by
  obtain ⟨τ, f, M, c⟩ := m_ask (d := 23) J.m S.o v1 v2
  exact MC.mf J S f M c
theorem X_scrawl (I : IXc σ a b u w s) (S : SOk s) (v1 : Int32) : XC σ 168 [.ref 1, .int v1] (.int (s.A.uScrawl v1).1.1) ((s.wA (s.A.uScrawl v1).2).wS (s.A.uScrawl v1).1.2) := by
  obtain ⟨τ, f, H, c⟩ := x_scrawl (d := 27) I.x I.o S.o (by have := I.ab; have := I.uw; omega) v1
  exact XC.ofc I S f H c
theorem M_scrawl (J : IMc σ s) (S : SOk s) (v1 : Int32) : MC σ 311 [.ref 120, .int v1] (.int (s.A.uScrawl v1).1.1) ((s.wA (s.A.uScrawl v1).2).wS (s.A.uScrawl v1).1.2) := by
  obtain ⟨τ, f, M, c⟩ := m_scrawl (d := 27) J.m S.o v1
  exact MC.mfm J S f M c
theorem X_rule (I : IXc σ a b u w s) (S : SOk s) (v1 : Int32) (v2 : Int32) : XC σ 169 [.ref 1, .int v1, .int v2] (.int (s.A.uRule v1 v2).1.1) ((s.wA (s.A.uRule v1 v2).2).wS (s.A.uRule v1 v2).1.2) := by
  obtain ⟨τ, f, H, c⟩ := x_rule (d := 28) I.x I.o S.o (by have := I.ab; have := I.uw; omega) v1 v2
  exact XC.ofc I S f H c
theorem M_rule (J : IMc σ s) (S : SOk s) (v1 : Int32) (v2 : Int32) : MC σ 312 [.ref 120, .int v1, .int v2] (.int (s.A.uRule v1 v2).1.1) ((s.wA (s.A.uRule v1 v2).2).wS (s.A.uRule v1 v2).1.2) := by
  obtain ⟨τ, f, M, c⟩ := m_rule (d := 28) J.m S.o v1 v2
  exact MC.mf J S f M c
theorem X_likeness (I : IXc σ a b u w s) (S : SOk s) (v1 : Int32) (v2 : Int32) : XC σ 170 [.ref 1, .int v1, .int v2] (.int (s.A.qLikeness v1 v2).1) (s.wS (s.A.qLikeness v1 v2).2) := XC.ask I S (fun K => x_likeness (d := 27) I.x I.o S.o v1 v2)
theorem M_likeness (J : IMc σ s) (S : SOk s) (v1 : Int32) (v2 : Int32) : MC σ 313 [.ref 120, .int v1, .int v2] (.int (s.A.qLikeness v1 v2).1) (s.wS (s.A.qLikeness v1 v2).2) := MC.ask J (fun K => m_likeness (d := 26) J.m S.o v1 v2)
theorem X_smell (I : IXc σ a b u w s) (S : SOk s) (v1 : Int32) (v2 : Int32) : XC σ 171 [.ref 1, .int v1, .int v2] (.int (s.A.qSmell v1 v2).1) (s.wS (s.A.qSmell v1 v2).2) := XC.ask I S (fun K => x_smell (d := 26) I.x I.o S.o v1 v2)
theorem M_smell (J : IMc σ s) (S : SOk s) (v1 : Int32) (v2 : Int32) : MC σ 315 [.ref 120, .int v1, .int v2] (.int (s.A.qSmell v1 v2).1) (s.wS (s.A.qSmell v1 v2).2) := MC.ask J (fun K => m_smell (d := 25) J.m S.o v1 v2)
theorem X_beside (I : IXc σ a b u w s) (S : SOk s) (v1 : Int32) : XC σ 172 [.ref 1, .int v1] (.int (s.A.qBeside v1).1) (s.wS (s.A.qBeside v1).2) := XC.ask I S (fun K => x_beside (d := 26) I.x I.o S.o v1)
theorem M_beside (J : IMc σ s) (S : SOk s) (v1 : Int32) : MC σ 316 [.ref 120, .int v1] (.int (s.A.qBeside v1).1) (s.wS (s.A.qBeside v1).2) := MC.ask J (fun K => m_beside (d := 26) J.m S.o v1)
theorem X_kinship (I : IXc σ a b u w s) (S : SOk s) (v1 : Int32) : XC σ 173 [.ref 1, .int v1] (.int (s.A.qKinship v1).1) (s.wS (s.A.qKinship v1).2) := XC.ask I S (fun K => x_kinship (d := 28) I.x I.o S.o v1)
theorem M_kinship (J : IMc σ s) (S : SOk s) (v1 : Int32) : MC σ 317 [.ref 120, .int v1] (.int (s.A.qKinship v1).1) (s.wS (s.A.qKinship v1).2) := MC.ask J (fun K => m_kinship (d := 25) J.m S.o v1)
theorem X_likest (I : IXc σ a b u w s) (S : SOk s) (v1 : Int32) : XC σ 174 [.ref 1, .int v1] (.int (s.A.qLikest v1).1) (s.wS (s.A.qLikest v1).2) := XC.ask I S (fun K => x_likest (d := 27) I.x I.o S.o v1)
theorem M_likest (J : IMc σ s) (S : SOk s) (v1 : Int32) : MC σ 318 [.ref 120, .int v1] (.int (s.A.qLikest v1).1) (s.wS (s.A.qLikest v1).2) := MC.ask J (fun K => m_likest (d := 26) J.m S.o v1)
theorem X_oddest (I : IXc σ a b u w s) (S : SOk s) : XC σ 175 [.ref 1] (.int (qO (zfor s.A.oddestG s.A.np none)).1) (s.wS (qO (zfor s.A.oddestG s.A.np none)).2) := XC.ask I S (fun K => x_oddest (d := 26) I.x I.o S.o)
theorem M_oddest (J : IMc σ s) (S : SOk s) : MC σ 320 [.ref 120] (.int (qO (zfor s.A.oddestG s.A.np none)).1) (s.wS (qO (zfor s.A.oddestG s.A.np none)).2) := MC.ask J (fun K => m_oddest (d := 25) J.m S.o)
theorem X_filedIn (I : IXc σ a b u w s) (S : SOk s) (v1 : Int32) : XC σ 176 [.ref 1, .int v1] (.int (s.A.qFiledIn v1).1) (s.wS (s.A.qFiledIn v1).2) := XC.ask I S (fun K => x_filedIn (d := 27) I.x I.o S.o v1)
theorem M_filedIn (J : IMc σ s) (S : SOk s) (v1 : Int32) : MC σ 321 [.ref 120, .int v1] (.int (s.A.qFiledIn v1).1) (s.wS (s.A.qFiledIn v1).2) := MC.ask J (fun K => m_filedIn (d := 24) J.m S.o v1)
theorem X_find (I : IXc σ a b u w s) (S : SOk s) (v1 : Int32) (v2 : Int32) : XC σ 177 [.ref 1, .int v1, .int v2] (.int (s.A.qFind v1 v2).1) (s.wS (s.A.qFind v1 v2).2) := by
  obtain ⟨τ, f, c⟩ := x_find (d := 25) I.x I.o S.o v1 v2
  exact XC.of (I.fnd S.m3 f) S.m3 f (fun c hc => by have := I.ab; omega) c
theorem M_find (J : IMc σ s) (S : SOk s) (v1 : Int32) (v2 : Int32) : MC σ 325 [.ref 120, .int v1, .int v2] (.int (s.A.qFind v1 v2).1) (s.wS (s.A.qFind v1 v2).2) := by
  obtain ⟨τ, f, M, c⟩ := m_find (d := 24) J.m S.o v1 v2
  exact MC.mfa J S f M c
theorem X_paces (I : IXc σ a b u w s) (S : SOk s) (v1 : Int32) (v2 : Int32) : XC σ 178 [.ref 1, .int v1, .int v2] (.int (s.A.qPaces v1 v2).1) (s.wS (s.A.qPaces v1 v2).2) := by
  obtain ⟨τ, f, c⟩ := x_paces (d := 25) I.x I.o S.o v1 v2
  exact XC.of (I.fnd S.m3 f) S.m3 f (fun c hc => by have := I.ab; omega) c
theorem M_paces (J : IMc σ s) (S : SOk s) (v1 : Int32) (v2 : Int32) : MC σ 326 [.ref 120, .int v1, .int v2] (.int (s.A.qPaces v1 v2).1) (s.wS (s.A.qPaces v1 v2).2) := by
  obtain ⟨τ, f, M, c⟩ := m_paces (d := 24) J.m S.o v1 v2
  exact MC.mfa J S f M c
theorem X_skill (I : IXc σ a b u w s) (S : SOk s) (v1 : Int32) : XC σ 179 [.ref 1, .int v1] (.int (bI (decide ((s.A.fSkill v1).1 = 0)))) (s.fr (s.A.fSkill v1)) := by
  obtain ⟨τ, f, c⟩ := x_skill (d := 25) I.x I.o S.o v1 (by have := I.ab; have := I.uw; omega)
  exact XC.ff (I.fnd S.m3 f) S f (fun c hc => by have := I.ab; omega) c
theorem M_skill (J : IMc σ s) (S : SOk s) (v1 : Int32) : MC σ 327 [.ref 120, .int v1] (.int (bI (decide ((s.A.fSkill v1).1 = 0)))) (s.fr (s.A.fSkill v1)) := by
  obtain ⟨τ, f, M, c⟩ := m_skill (d := 24) J.m S.o v1
  exact MC.mff J S f M c
theorem X_toil (I : IXc σ a b u w s) (S : SOk s) (v1 : Int32) : XC σ 180 [.ref 1, .int v1] (.int (bI (decide ((s.A.fToil v1).1 = 0)))) (s.fr (s.A.fToil v1)) := by
  obtain ⟨τ, f, c⟩ := x_toil (d := 25) I.x I.o S.o v1 (by have := I.ab; have := I.uw; omega)
  exact XC.ff (I.fnd S.m3 f) S f (fun c hc => by have := I.ab; omega) c
theorem M_toil (J : IMc σ s) (S : SOk s) (v1 : Int32) : MC σ 328 [.ref 120, .int v1] (.int (bI (decide ((s.A.fToil v1).1 = 0)))) (s.fr (s.A.fToil v1)) := by
  obtain ⟨τ, f, M, c⟩ := m_toil (d := 24) J.m S.o v1
  exact MC.mff J S f M c
theorem X_looking (I : IXc σ a b u w s) (S : SOk s) (v1 : Int32) (v2 : Int32) : XC σ 181 [.ref 1, .int v1, .int v2] (.int (s.A.qLook v1 v2).1) (s.wS (s.A.qLook v1 v2).2) := XC.ask I S (fun K => x_looking (d := 26) I.x I.o S.o v1 v2)
theorem M_looking (J : IMc σ s) (S : SOk s) (v1 : Int32) (v2 : Int32) : MC σ 330 [.ref 120, .int v1, .int v2] (.int (s.A.qLook v1 v2).1) (s.wS (s.A.qLook v1 v2).2) := MC.ask J (fun K => m_looking (d := 25) J.m S.o v1 v2)
theorem X_guess (I : IXc σ a b u w s) (S : SOk s) (v1 : Int32) (v2 : Int32) : XC σ 182 [.ref 1, .int v1, .int v2] (.int (bI (decide ((s.A.fGuess v1 v2).1 = 0)))) (s.fr (s.A.fGuess v1 v2)) := XC.fra I S (fun K => x_guess (d := 26) I.x I.o S.o v1 v2)
theorem M_guess (J : IMc σ s) (S : SOk s) (v1 : Int32) (v2 : Int32) : MC σ 331 [.ref 120, .int v1, .int v2] (.int (bI (decide ((s.A.fGuess v1 v2).1 = 0)))) (s.fr (s.A.fGuess v1 v2)) := MC.fra J (fun K => m_guess (d := 25) J.m S.o v1 v2)
theorem X_chain (I : IXc σ a b u w s) (S : SOk s) (v1 : Int32) (v2 : Int32) : XC σ 183 [.ref 1, .int v1, .int v2] (.int (s.A.qChain v1 v2).1) (s.wS (s.A.qChain v1 v2).2) := XC.ask I S (fun K => x_chain (d := 24) I.x I.o S.o v1 v2)
theorem M_chain (J : IMc σ s) (S : SOk s) (v1 : Int32) (v2 : Int32) : MC σ 334 [.ref 120, .int v1, .int v2] (.int (s.A.qChain v1 v2).1) (s.wS (s.A.qChain v1 v2).2) := by
  obtain ⟨τ, f, M, c⟩ := m_chain (d := 24) J.m S.o v1 v2
  exact MC.mfa J S f M c
theorem X_chainAt (I : IXc σ a b u w s) (S : SOk s) (v1 : Int32) (v2 : Int32) (v3 : Int32) : XC σ 184 [.ref 1, .int v1, .int v2, .int v3] (.int (s.A.qChainAt v1 v2 v3).1) (s.wS (s.A.qChainAt v1 v2 v3).2) := XC.ask I S (fun K => x_chainAt (d := 23) I.x I.o S.o v1 v2 v3)
theorem M_chainAt (J : IMc σ s) (S : SOk s) (v1 : Int32) (v2 : Int32) (v3 : Int32) : MC σ 335 [.ref 120, .int v1, .int v2, .int v3] (.int (s.A.qChainAt v1 v2 v3).1) (s.wS (s.A.qChainAt v1 v2 v3).2) := by
  obtain ⟨τ, f, M, c⟩ := m_chainAt (d := 24) J.m S.o v1 v2 v3
  exact MC.mfa J S f M c
theorem X_group (I : IXc σ a b u w s) (S : SOk s) (v1 : Int32) : XC σ 185 [.ref 1, .int v1] (.int (s.A.qGroup v1).1) (s.wS (s.A.qGroup v1).2) := XC.ask I S (fun K => x_group (d := 24) I.x I.o S.o v1)
theorem M_group (J : IMc σ s) (S : SOk s) (v1 : Int32) : MC σ 337 [.ref 120, .int v1] (.int (s.A.qGroup v1).1) (s.wS (s.A.qGroup v1).2) := by
  obtain ⟨τ, f, M, c⟩ := m_group (d := 23) J.m S.o v1
  exact MC.mfa J S f M c
theorem X_groups (I : IXc σ a b u w s) (S : SOk s) : XC σ 186 [.ref 1] (.int (qA (nI (zfor s.A.grpM s.A.np 0))).1) (s.wS (qA (nI (zfor s.A.grpM s.A.np 0))).2) := XC.ask I S (fun K => x_groups (d := 24) I.x I.o S.o)
theorem M_groups (J : IMc σ s) (S : SOk s) : MC σ 338 [.ref 120] (.int (qA (nI (zfor s.A.grpM s.A.np 0))).1) (s.wS (qA (nI (zfor s.A.grpM s.A.np 0))).2) := by
  obtain ⟨τ, f, M, c⟩ := m_groups (d := 23) J.m S.o
  exact MC.mfa J S f M c
theorem X_best (I : IXc σ a b u w s) (S : SOk s) : XC σ 187 [.ref 1] (.int s.A.qBest.1) (s.wS s.A.qBest.2) := by
  obtain ⟨τ, f, B, C, c⟩ := x_best (d := 17) I.x I.bk I.bc I.o S.o (by have := I.ab; have := I.uw; omega) (by have := I.ab; have := I.uw; omega)
  exact XC.of (I.bes S.m3 B C f) S.m3 f (fun c hc => by have := I.ab; omega) c
theorem M_best (J : IMc σ s) (S : SOk s) : MC σ 342 [.ref 120] (.int s.A.qBest.1) (s.wS s.A.qBest.2) := by
  obtain ⟨τ, f, M, c⟩ := m_best (d := 23) J.m S.o
  exact MC.mfa J S f M c
theorem X_bestIn (I : IXc σ a b u w s) (S : SOk s) (v1 : Int32) : XC σ 188 [.ref 1, .int v1] (.int (s.A.qBestIn v1).1) (s.wS (s.A.qBestIn v1).2) := by
  obtain ⟨τ, f, B, C, c⟩ := x_bestIn (d := 17) I.x I.bk I.bc I.o S.o (by have := I.ab; have := I.uw; omega) (by have := I.ab; have := I.uw; omega) v1
  exact XC.of (I.bes S.m3 B C f) S.m3 f (fun c hc => by have := I.ab; omega) c
theorem M_bestIn (J : IMc σ s) (S : SOk s) (v1 : Int32) : MC σ 343 [.ref 120, .int v1] (.int (s.A.qBestIn v1).1) (s.wS (s.A.qBestIn v1).2) := by
  obtain ⟨τ, f, M, c⟩ := m_bestIn (d := 23) J.m S.o v1
  exact MC.mfa J S f M c
theorem X_gain (I : IXc σ a b u w s) (S : SOk s) : XC σ 189 [.ref 1] (.int s.A.qGain.1) (s.wS s.A.qGain.2) := XC.ask I S (fun K => x_gain (d := 26) I.x I.o S.o)
theorem M_gain (J : IMc σ s) (S : SOk s) : MC σ 345 [.ref 120] (.int s.A.qGain.1) (s.wS s.A.qGain.2) := by
  obtain ⟨τ, f, M, c⟩ := m_gain (d := 23) J.m S.o
  exact MC.mfa J S f M c
theorem X_gainAt (I : IXc σ a b u w s) (S : SOk s) (v1 : Int32) : XC σ 190 [.ref 1, .int v1] (.int (s.A.qGainAt v1).1) (s.wS (s.A.qGainAt v1).2) := XC.ask I S (fun K => x_gainAt (d := 26) I.x I.o S.o v1)
theorem M_gainAt (J : IMc σ s) (S : SOk s) (v1 : Int32) : MC σ 346 [.ref 120, .int v1] (.int (s.A.qGainAt v1).1) (s.wS (s.A.qGainAt v1).2) := by
  obtain ⟨τ, f, M, c⟩ := m_gainAt (d := 23) J.m S.o v1
  exact MC.mfa J S f M c
theorem X_disorder (I : IXc σ a b u w s) (S : SOk s) : XC σ 191 [.ref 1] (.int (qA (nI s.A.disA)).1) (s.wS (qA (nI s.A.disA)).2) := XC.ask I S (fun K => x_disorder (d := 28) I.x I.o S.o)
theorem M_disorder (J : IMc σ s) (S : SOk s) : MC σ 347 [.ref 120] (.int (qA (nI s.A.disA)).1) (s.wS (qA (nI s.A.disA)).2) := MC.ask J (fun K => m_disorder (d := 26) J.m S.o)
theorem X_swaps (I : IXc σ a b u w s) (S : SOk s) : XC σ 192 [.ref 1] (.int (qA (nI s.A.N - nI s.A.rings)).1) (s.wS (qA (nI s.A.N - nI s.A.rings)).2) := XC.ask I S (fun K => x_swaps (d := 26) I.x I.o S.o)
theorem M_swaps (J : IMc σ s) (S : SOk s) : MC σ 348 [.ref 120] (.int (qA (nI s.A.N - nI s.A.rings)).1) (s.wS (qA (nI s.A.N - nI s.A.rings)).2) := by
  obtain ⟨τ, f, M, c⟩ := m_swapsQ (d := 25) J.m S.o
  exact MC.mfa J S f M c
theorem X_hide (I : IXc σ a b u w s) (S : SOk s) (v1 : Int32) : XC σ 193 [.ref 1, .int v1] (.int (s.A.qHide true v1).1) (s.wS (s.A.qHide true v1).2) := XC.ask I S (fun K => x_hide (d := 24) I.x I.o S.o v1)
theorem M_hide (J : IMc σ s) (S : SOk s) (v1 : Int32) : MC σ 351 [.ref 120, .int v1] (.int (s.A.qHide true v1).1) (s.wS (s.A.qHide true v1).2) := MC.ask J (fun K => m_hide (d := 24) J.m S.o v1)
theorem X_hideSet (I : IXc σ a b u w s) (S : SOk s) (v1 : Int32) : XC σ 194 [.ref 1, .int v1] (.int (s.A.qHide false v1).1) (s.wS (s.A.qHide false v1).2) := XC.ask I S (fun K => x_hideSet (d := 24) I.x I.o S.o v1)
theorem M_hideSet (J : IMc σ s) (S : SOk s) (v1 : Int32) : MC σ 352 [.ref 120, .int v1] (.int (s.A.qHide false v1).1) (s.wS (s.A.qHide false v1).2) := MC.ask J (fun K => m_hideSet (d := 24) J.m S.o v1)
theorem X_weighed (I : IXc σ a b u w s) (S : SOk s) (v1 : Int32) (v2 : Int32) : XC σ 195 [.ref 1, .int v1, .int v2] (.int (s.A.qWeighed s.T v1 v2).1) (s.wS (s.A.qWeighed s.T v1 v2).2) := by
  obtain ⟨τ, f, W, c⟩ := x_weighed (d := 25) I.x I.wk I.t S.t I.o S.o (by have := I.ab; have := I.uw; omega) (by have := I.ab; have := I.uw; omega) v1 v2
  exact XC.of (I.wei S.m3 W f) S.m3 f (fun c hc => by have := I.ab; omega) c
theorem M_weighed (J : IMc σ s) (S : SOk s) (v1 : Int32) (v2 : Int32) : MC σ 358 [.ref 120, .int v1, .int v2] (.int (s.A.qWeighed s.T v1 v2).1) (s.wS (s.A.qWeighed s.T v1 v2).2) := by
  obtain ⟨τ, f, M, c⟩ := m_weighed (d := 24) J.m S.o J.t S.t v1 v2
  exact MC.mfa J S f M c
theorem X_sure (I : IXc σ a b u w s) (S : SOk s) (v1 : Int32) (v2 : Int32) (v3 : Int32) : XC σ 196 [.ref 1, .int v1, .int v2, .int v3] (.int (s.A.qSure s.T v1 v2 v3).1) (s.wS (s.A.qSure s.T v1 v2 v3).2) := by
  obtain ⟨τ, f, W, c⟩ := x_sure (d := 25) I.x I.wk I.t S.t I.o S.o (by have := I.ab; have := I.uw; omega) (by have := I.ab; have := I.uw; omega) v1 v2 v3
  exact XC.of (I.wei S.m3 W f) S.m3 f (fun c hc => by have := I.ab; omega) c
theorem M_sure (J : IMc σ s) (S : SOk s) (v1 : Int32) (v2 : Int32) (v3 : Int32) : MC σ 359 [.ref 120, .int v1, .int v2, .int v3] (.int (s.A.qSure s.T v1 v2 v3).1) (s.wS (s.A.qSure s.T v1 v2 v3).2) := by
  obtain ⟨τ, f, M, c⟩ := m_sure (d := 24) J.m S.o J.t S.t v1 v2 v3
  exact MC.mfa J S f M c
theorem X_game (I : IXc σ a b u w s) (S : SOk s) (v1 : Int32) : XC σ 197 [.ref 1, .int v1] (.int (s.A.qGame v1).1) (s.wS (s.A.qGame v1).2) := by
  obtain ⟨τ, f, G, c⟩ := x_game (d := 20) I.x I.pk I.o S.o (by have := I.ab; have := I.uw; omega) (by have := I.ab; have := I.uw; omega) v1
  exact XC.of (I.gam S.m3 G f) S.m3 f (fun c hc => by have := I.ab; omega) c
theorem M_game (J : IMc σ s) (S : SOk s) (v1 : Int32) : MC σ 367 [.ref 120, .int v1] (.int (s.A.qGame v1).1) (s.wS (s.A.qGame v1).2) := by
  obtain ⟨τ, f, M, c⟩ := m_game (d := 23) J.m S.o v1
  exact MC.mfa J S f M c
theorem X_moveOf (I : IXc σ a b u w s) (S : SOk s) (v1 : Int32) : XC σ 198 [.ref 1, .int v1] (.int (s.A.qMoveOf v1).1) (s.wS (s.A.qMoveOf v1).2) := by
  obtain ⟨τ, f, G, c⟩ := x_moveOf (d := 20) I.x I.pk I.o S.o (by have := I.ab; have := I.uw; omega) (by have := I.ab; have := I.uw; omega) v1
  exact XC.of (I.gam S.m3 G f) S.m3 f (fun c hc => by have := I.ab; omega) c
theorem M_moveOf (J : IMc σ s) (S : SOk s) (v1 : Int32) : MC σ 368 [.ref 120, .int v1] (.int (s.A.qMoveOf v1).1) (s.wS (s.A.qMoveOf v1).2) := by
  obtain ⟨τ, f, M, c⟩ := m_moveOf (d := 23) J.m S.o v1
  exact MC.mfa J S f M c
theorem X_smelt (I : IXc σ a b u w s) (S : SOk s) (v1 : Int32) (v2 : Int32) : XC σ 199 [.ref 1, .int v1, .int v2] (.int (bI (decide ((s.A.fSmelt v1 v2).1 = 0)))) (s.fr (s.A.fSmelt v1 v2)) := XC.fra I S (fun K => x_smelt (d := 27) I.x I.o S.o v1 v2)
theorem M_smelt (J : IMc σ s) (S : SOk s) (v1 : Int32) (v2 : Int32) : MC σ 369 [.ref 120, .int v1, .int v2] (.int (bI (decide ((s.A.fSmelt v1 v2).1 = 0)))) (s.fr (s.A.fSmelt v1 v2)) := by
  obtain ⟨τ, f, M, c⟩ := m_smelt (d := 26) J.m S.o v1 v2
  exact MC.mff J S f M c
theorem X_copyFloor (I : IXc σ a b u w s) (S : SOk s) (v1 : Int32) : XC σ 200 [.ref 1, .int v1] (.int (uCopy s.T s.A v1).1.1) ((s.wT (uCopy s.T s.A v1).2).wS (uCopy s.T s.A v1).1.2) := by
  obtain ⟨τ, f, H, c⟩ := x_copyFloor (d := 27) I.x I.t S.t I.o S.o (by have := I.ab; have := I.uw; omega) v1
  exact XC.tra I S f H c
theorem M_copyFloor (J : IMc σ s) (S : SOk s) (v1 : Int32) : MC σ 370 [.ref 120, .int v1] (.int (uCopy s.T s.A v1).1.1) ((s.wT (uCopy s.T s.A v1).2).wS (uCopy s.T s.A v1).1.2) := by
  obtain ⟨τ, f, M, c⟩ := m_copyFloor (d := 25) J.m J.t S.t S.o v1
  exact MC.tra J f M c
theorem X_live (I : IXc σ a b u w s) (S : SOk s) (v1 : Int32) : XC σ 201 [.ref 1, .int v1] (.int (s.A.uLive s.E v1 s.Q).1.1) (((s.wA (s.A.uLive s.E v1 s.Q).2.1).wQ (s.A.uLive s.E v1 s.Q).2.2).wS (s.A.uLive s.E v1 s.Q).1.2) := by
  obtain ⟨τ, f, H, R, c⟩ := x_live (d := 16) I.x I.r8 I.o S.o I.du I.e S.e I.q (by have := I.ab; have := I.uw; omega) (by have := I.ab; have := I.uw; omega) (by have := I.ab; have := I.uw; omega) v1
  exact XC.liv I S f H R c
theorem M_live (J : IMc σ s) (S : SOk s) (v1 : Int32) : MC σ 379 [.ref 120, .int v1] (.int (s.A.uLive s.E v1 s.Q).1.1) (((s.wA (s.A.uLive s.E v1 s.Q).2.1).wQ (s.A.uLive s.E v1 s.Q).2.2).wS (s.A.uLive s.E v1 s.Q).1.2) := by
  obtain ⟨τ, f, M, R, c⟩ := m_live (d := 20) J.m S.o J.d S.e J.q v1
  exact MC.liv J f M R c
theorem X_lived (I : IXc σ a b u w s) (S : SOk s) (v1 : Int32) : XC σ 202 [.ref 1, .int v1] (.int (qLived s.Q v1).1) (s.wS (qLived s.Q v1).2) := XC.ask I S (fun K => x_lived (d := 28) I.x I.q v1)
theorem M_lived (J : IMc σ s) (S : SOk s) (v1 : Int32) : MC σ 380 [.ref 120, .int v1] (.int (qLived s.Q v1).1) (s.wS (qLived s.Q v1).2) := MC.ask J (fun K => m_lived (d := 28) J.m.m J.q v1)
theorem X_mean (I : IXc σ a b u w s) (S : SOk s) (v1 : Int32) (v2 : Int32) : XC σ 203 [.ref 1, .int v1, .int v2] (.int (bI (decide ((s.A.fMean s.E v1 v2).1 = 0)))) (s.fr (s.A.fMean s.E v1 v2)) := by
  obtain ⟨τ, f, c⟩ := x_mean (d := 15) I.x I.r8 I.r7 I.o S.o I.ob I.du I.e S.e I.k102 (by have := I.ab; have := I.uw; omega) (by have := I.ab; have := I.uw; omega) (by have := I.ab; have := I.uw; omega) (by have := I.ab; have := I.uw; omega) (by have := I.ab; have := I.uw; omega) (by have := I.ab; have := I.uw; omega) v1 v2
  exact XC.ff (I.mean S.m3 f) S f (fun c hc => by have := I.ab; omega) c
theorem M_mean (J : IMc σ s) (S : SOk s) (v1 : Int32) (v2 : Int32) : MC σ 381 [.ref 120, .int v1, .int v2] (.int (bI (decide ((s.A.fMean s.E v1 v2).1 = 0)))) (s.fr (s.A.fMean s.E v1 v2)) := by
  obtain ⟨τ, f, M, c⟩ := m_mean (d := 20) J.m S.o J.d S.e v1 v2
  exact MC.mff J S f M c
end PRS
