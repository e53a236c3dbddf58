/-! by program (wpz.py): the formulas over the integers -/
-- 157 GlassWires$Wires trace (ILGlassWires$Page;II)V
theorem v157_0 {E : gw_N} {N : NM} {res : Option Value × gw_H} {x1 : Int} {x3 : Int} {x4 : Int} (H : ((0 ≤ (25 * x1) ∧ (25 * x1) < 750) ∧ Ev 4 157 25 [some (.ref 14), some (.int (J x1)), some (.ref 12), none, none, some (.int (J x3)), some (.int (J x4)), some (.int (J 0)), none, none] [] (hs E (jm (upZ N 20 (updZ (N 20) (25 * x1) (G48 N x3 x4))))) res)) : Ev 4 157 0 [some (.ref 14), some (.int (J x1)), some (.ref 12), some (.int (J x3)), some (.int (J x4)), none, none, none, none, none] [] (hs E (jm N)) res := by
  refine w157_0 ?_
  obtain ⟨q1, H⟩ := H
  refine ⟨inb_J (mul_J jl_25 rfl) q1 (by decide), ?_⟩
  exact Ev_to (clx (cli rfl (clx (clx (clx (cli rfl (cli rfl (cli jl_0 (clx (clx rfl)))))))))) rfl (jm_up rfl (jf_upd (jf_base _ _) (mul_J jl_25 rfl) q1 (by decide) ((congr (congr (congrArg F48 rfl) rfl) rfl).trans (t48)))) H
theorem v157_25 {E : gw_N} {N : NM} {res : Option Value × gw_H} {x1 : Int} {x5 : Int} {x6 : Int} {x7 : Int} (H : ((0 ≤ x1 ∧ x1 < 30) ∧ ((R ((N 17) x1)) ∧ ((R x7) ∧ ((((N 17) x1) ≤ x7 → res = (none, hs E (jm N))) ∧ (¬ ((N 17) x1) ≤ x7 → ((Q83 N x7) ∧ ((Q52 N x5 x6 (G83 N x7)) ∧ (∃ (r1 : Int), Rn 158 [.ref 14, .int (J x1), .int (J x7), .int (J (G52 N x5 x6 (G83 N x7)))] (hs E (jm N)) (some (.int (J r1))) (hs E (jm N)) ∧ ((R r1) ∧ ((r1 = 0 → ((Q206 N 1) ∧ ((x7 ≤ 0 → ((Q206 (upZ N 19 (updZ (N 19) x1 (((N 19) x1) + (G206 N 1)))) 0) ∧ ((0 ≤ ((24 * x1) + x7) ∧ ((24 * x1) + x7) < 720) ∧ ((Q53 (upZ (upZ (upZ N 19 (updZ (N 19) x1 (((N 19) x1) + (G206 N 1)))) 18 (updZ (N 18) x1 (((N 18) x1) + (G206 (upZ N 19 (updZ (N 19) x1 (((N 19) x1) + (G206 N 1)))) 0)))) 21 (updZ (N 21) ((24 * x1) + x7) (G52 N x5 x6 (G83 N x7)))) (G83 N x7)) ∧ ((Q54 (upZ (upZ (upZ N 19 (updZ (N 19) x1 (((N 19) x1) + (G206 N 1)))) 18 (updZ (N 18) x1 (((N 18) x1) + (G206 (upZ N 19 (updZ (N 19) x1 (((N 19) x1) + (G206 N 1)))) 0)))) 21 (updZ (N 21) ((24 * x1) + x7) (G52 N x5 x6 (G83 N x7)))) (G83 N x7)) ∧ ((0 ≤ (((25 * x1) + x7) + 1) ∧ (((25 * x1) + x7) + 1) < 750) ∧ Ev 4 157 25 [some (.ref 14), some (.int (J x1)), some (.ref 12), none, none, some (.int (J (x5 + (G53 (upZ (upZ (upZ N 19 (updZ (N 19) x1 (((N 19) x1) + (G206 N 1)))) 18 (updZ (N 18) x1 (((N 18) x1) + (G206 (upZ N 19 (updZ (N 19) x1 (((N 19) x1) + (G206 N 1)))) 0)))) 21 (updZ (N 21) ((24 * x1) + x7) (G52 N x5 x6 (G83 N x7)))) (G83 N x7))))), some (.int (J (x6 + (G54 (upZ (upZ (upZ N 19 (updZ (N 19) x1 (((N 19) x1) + (G206 N 1)))) 18 (updZ (N 18) x1 (((N 18) x1) + (G206 (upZ N 19 (updZ (N 19) x1 (((N 19) x1) + (G206 N 1)))) 0)))) 21 (updZ (N 21) ((24 * x1) + x7) (G52 N x5 x6 (G83 N x7)))) (G83 N x7))))), some (.int (J (x7 + 1))), none, none] [] (hs E (jm (upZ (upZ (upZ (upZ N 19 (updZ (N 19) x1 (((N 19) x1) + (G206 N 1)))) 18 (updZ (N 18) x1 (((N 18) x1) + (G206 (upZ N 19 (updZ (N 19) x1 (((N 19) x1) + (G206 N 1)))) 0)))) 21 (updZ (N 21) ((24 * x1) + x7) (G52 N x5 x6 (G83 N x7)))) 20 (updZ (N 20) (((25 * x1) + x7) + 1) (G48 (upZ (upZ (upZ N 19 (updZ (N 19) x1 (((N 19) x1) + (G206 N 1)))) 18 (updZ (N 18) x1 (((N 18) x1) + (G206 (upZ N 19 (updZ (N 19) x1 (((N 19) x1) + (G206 N 1)))) 0)))) 21 (updZ (N 21) ((24 * x1) + x7) (G52 N x5 x6 (G83 N x7)))) (x5 + (G53 (upZ (upZ (upZ N 19 (updZ (N 19) x1 (((N 19) x1) + (G206 N 1)))) 18 (updZ (N 18) x1 (((N 18) x1) + (G206 (upZ N 19 (updZ (N 19) x1 (((N 19) x1) + (G206 N 1)))) 0)))) 21 (updZ (N 21) ((24 * x1) + x7) (G52 N x5 x6 (G83 N x7)))) (G83 N x7))) (x6 + (G54 (upZ (upZ (upZ N 19 (updZ (N 19) x1 (((N 19) x1) + (G206 N 1)))) 18 (updZ (N 18) x1 (((N 18) x1) + (G206 (upZ N 19 (updZ (N 19) x1 (((N 19) x1) + (G206 N 1)))) 0)))) 21 (updZ (N 21) ((24 * x1) + x7) (G52 N x5 x6 (G83 N x7)))) (G83 N x7)))))))) res)))))) ∧ (¬ x7 ≤ 0 → ((Q83 (upZ N 19 (updZ (N 19) x1 (((N 19) x1) + (G206 N 1)))) (x7 - 1)) ∧ ((R (G83 N x7)) ∧ ((R (G83 (upZ N 19 (updZ (N 19) x1 (((N 19) x1) + (G206 N 1)))) (x7 - 1))) ∧ (((G83 N x7) = (G83 (upZ N 19 (updZ (N 19) x1 (((N 19) x1) + (G206 N 1)))) (x7 - 1)) → ((Q206 (upZ N 19 (updZ (N 19) x1 (((N 19) x1) + (G206 N 1)))) 0) ∧ ((0 ≤ ((24 * x1) + x7) ∧ ((24 * x1) + x7) < 720) ∧ ((Q53 (upZ (upZ (upZ N 19 (updZ (N 19) x1 (((N 19) x1) + (G206 N 1)))) 18 (updZ (N 18) x1 (((N 18) x1) + (G206 (upZ N 19 (updZ (N 19) x1 (((N 19) x1) + (G206 N 1)))) 0)))) 21 (updZ (N 21) ((24 * x1) + x7) (G52 N x5 x6 (G83 N x7)))) (G83 N x7)) ∧ ((Q54 (upZ (upZ (upZ N 19 (updZ (N 19) x1 (((N 19) x1) + (G206 N 1)))) 18 (updZ (N 18) x1 (((N 18) x1) + (G206 (upZ N 19 (updZ (N 19) x1 (((N 19) x1) + (G206 N 1)))) 0)))) 21 (updZ (N 21) ((24 * x1) + x7) (G52 N x5 x6 (G83 N x7)))) (G83 N x7)) ∧ ((0 ≤ (((25 * x1) + x7) + 1) ∧ (((25 * x1) + x7) + 1) < 750) ∧ Ev 4 157 25 [some (.ref 14), some (.int (J x1)), some (.ref 12), none, none, some (.int (J (x5 + (G53 (upZ (upZ (upZ N 19 (updZ (N 19) x1 (((N 19) x1) + (G206 N 1)))) 18 (updZ (N 18) x1 (((N 18) x1) + (G206 (upZ N 19 (updZ (N 19) x1 (((N 19) x1) + (G206 N 1)))) 0)))) 21 (updZ (N 21) ((24 * x1) + x7) (G52 N x5 x6 (G83 N x7)))) (G83 N x7))))), some (.int (J (x6 + (G54 (upZ (upZ (upZ N 19 (updZ (N 19) x1 (((N 19) x1) + (G206 N 1)))) 18 (updZ (N 18) x1 (((N 18) x1) + (G206 (upZ N 19 (updZ (N 19) x1 (((N 19) x1) + (G206 N 1)))) 0)))) 21 (updZ (N 21) ((24 * x1) + x7) (G52 N x5 x6 (G83 N x7)))) (G83 N x7))))), some (.int (J (x7 + 1))), none, none] [] (hs E (jm (upZ (upZ (upZ (upZ N 19 (updZ (N 19) x1 (((N 19) x1) + (G206 N 1)))) 18 (updZ (N 18) x1 (((N 18) x1) + (G206 (upZ N 19 (updZ (N 19) x1 (((N 19) x1) + (G206 N 1)))) 0)))) 21 (updZ (N 21) ((24 * x1) + x7) (G52 N x5 x6 (G83 N x7)))) 20 (updZ (N 20) (((25 * x1) + x7) + 1) (G48 (upZ (upZ (upZ N 19 (updZ (N 19) x1 (((N 19) x1) + (G206 N 1)))) 18 (updZ (N 18) x1 (((N 18) x1) + (G206 (upZ N 19 (updZ (N 19) x1 (((N 19) x1) + (G206 N 1)))) 0)))) 21 (updZ (N 21) ((24 * x1) + x7) (G52 N x5 x6 (G83 N x7)))) (x5 + (G53 (upZ (upZ (upZ N 19 (updZ (N 19) x1 (((N 19) x1) + (G206 N 1)))) 18 (updZ (N 18) x1 (((N 18) x1) + (G206 (upZ N 19 (updZ (N 19) x1 (((N 19) x1) + (G206 N 1)))) 0)))) 21 (updZ (N 21) ((24 * x1) + x7) (G52 N x5 x6 (G83 N x7)))) (G83 N x7))) (x6 + (G54 (upZ (upZ (upZ N 19 (updZ (N 19) x1 (((N 19) x1) + (G206 N 1)))) 18 (updZ (N 18) x1 (((N 18) x1) + (G206 (upZ N 19 (updZ (N 19) x1 (((N 19) x1) + (G206 N 1)))) 0)))) 21 (updZ (N 21) ((24 * x1) + x7) (G52 N x5 x6 (G83 N x7)))) (G83 N x7)))))))) res)))))) ∧ (¬ (G83 N x7) = (G83 (upZ N 19 (updZ (N 19) x1 (((N 19) x1) + (G206 N 1)))) (x7 - 1)) → ((Q206 (upZ N 19 (updZ (N 19) x1 (((N 19) x1) + (G206 N 1)))) 1) ∧ ((0 ≤ ((24 * x1) + x7) ∧ ((24 * x1) + x7) < 720) ∧ ((Q53 (upZ (upZ (upZ N 19 (updZ (N 19) x1 (((N 19) x1) + (G206 N 1)))) 18 (updZ (N 18) x1 (((N 18) x1) + (G206 (upZ N 19 (updZ (N 19) x1 (((N 19) x1) + (G206 N 1)))) 1)))) 21 (updZ (N 21) ((24 * x1) + x7) (G52 N x5 x6 (G83 N x7)))) (G83 N x7)) ∧ ((Q54 (upZ (upZ (upZ N 19 (updZ (N 19) x1 (((N 19) x1) + (G206 N 1)))) 18 (updZ (N 18) x1 (((N 18) x1) + (G206 (upZ N 19 (updZ (N 19) x1 (((N 19) x1) + (G206 N 1)))) 1)))) 21 (updZ (N 21) ((24 * x1) + x7) (G52 N x5 x6 (G83 N x7)))) (G83 N x7)) ∧ ((0 ≤ (((25 * x1) + x7) + 1) ∧ (((25 * x1) + x7) + 1) < 750) ∧ Ev 4 157 25 [some (.ref 14), some (.int (J x1)), some (.ref 12), none, none, some (.int (J (x5 + (G53 (upZ (upZ (upZ N 19 (updZ (N 19) x1 (((N 19) x1) + (G206 N 1)))) 18 (updZ (N 18) x1 (((N 18) x1) + (G206 (upZ N 19 (updZ (N 19) x1 (((N 19) x1) + (G206 N 1)))) 1)))) 21 (updZ (N 21) ((24 * x1) + x7) (G52 N x5 x6 (G83 N x7)))) (G83 N x7))))), some (.int (J (x6 + (G54 (upZ (upZ (upZ N 19 (updZ (N 19) x1 (((N 19) x1) + (G206 N 1)))) 18 (updZ (N 18) x1 (((N 18) x1) + (G206 (upZ N 19 (updZ (N 19) x1 (((N 19) x1) + (G206 N 1)))) 1)))) 21 (updZ (N 21) ((24 * x1) + x7) (G52 N x5 x6 (G83 N x7)))) (G83 N x7))))), some (.int (J (x7 + 1))), none, none] [] (hs E (jm (upZ (upZ (upZ (upZ N 19 (updZ (N 19) x1 (((N 19) x1) + (G206 N 1)))) 18 (updZ (N 18) x1 (((N 18) x1) + (G206 (upZ N 19 (updZ (N 19) x1 (((N 19) x1) + (G206 N 1)))) 1)))) 21 (updZ (N 21) ((24 * x1) + x7) (G52 N x5 x6 (G83 N x7)))) 20 (updZ (N 20) (((25 * x1) + x7) + 1) (G48 (upZ (upZ (upZ N 19 (updZ (N 19) x1 (((N 19) x1) + (G206 N 1)))) 18 (updZ (N 18) x1 (((N 18) x1) + (G206 (upZ N 19 (updZ (N 19) x1 (((N 19) x1) + (G206 N 1)))) 1)))) 21 (updZ (N 21) ((24 * x1) + x7) (G52 N x5 x6 (G83 N x7)))) (x5 + (G53 (upZ (upZ (upZ N 19 (updZ (N 19) x1 (((N 19) x1) + (G206 N 1)))) 18 (updZ (N 18) x1 (((N 18) x1) + (G206 (upZ N 19 (updZ (N 19) x1 (((N 19) x1) + (G206 N 1)))) 1)))) 21 (updZ (N 21) ((24 * x1) + x7) (G52 N x5 x6 (G83 N x7)))) (G83 N x7))) (x6 + (G54 (upZ (upZ (upZ N 19 (updZ (N 19) x1 (((N 19) x1) + (G206 N 1)))) 18 (updZ (N 18) x1 (((N 18) x1) + (G206 (upZ N 19 (updZ (N 19) x1 (((N 19) x1) + (G206 N 1)))) 1)))) 21 (updZ (N 21) ((24 * x1) + x7) (G52 N x5 x6 (G83 N x7)))) (G83 N x7)))))))) res)))))))))))))) ∧ (¬ r1 = 0 → ((Q206 N 0) ∧ ((x7 ≤ 0 → ((Q206 (upZ N 19 (updZ (N 19) x1 (((N 19) x1) + (G206 N 0)))) 0) ∧ ((0 ≤ ((24 * x1) + x7) ∧ ((24 * x1) + x7) < 720) ∧ ((Q53 (upZ (upZ (upZ N 19 (updZ (N 19) x1 (((N 19) x1) + (G206 N 0)))) 18 (updZ (N 18) x1 (((N 18) x1) + (G206 (upZ N 19 (updZ (N 19) x1 (((N 19) x1) + (G206 N 0)))) 0)))) 21 (updZ (N 21) ((24 * x1) + x7) (G52 N x5 x6 (G83 N x7)))) (G83 N x7)) ∧ ((Q54 (upZ (upZ (upZ N 19 (updZ (N 19) x1 (((N 19) x1) + (G206 N 0)))) 18 (updZ (N 18) x1 (((N 18) x1) + (G206 (upZ N 19 (updZ (N 19) x1 (((N 19) x1) + (G206 N 0)))) 0)))) 21 (updZ (N 21) ((24 * x1) + x7) (G52 N x5 x6 (G83 N x7)))) (G83 N x7)) ∧ ((0 ≤ (((25 * x1) + x7) + 1) ∧ (((25 * x1) + x7) + 1) < 750) ∧ Ev 4 157 25 [some (.ref 14), some (.int (J x1)), some (.ref 12), none, none, some (.int (J (x5 + (G53 (upZ (upZ (upZ N 19 (updZ (N 19) x1 (((N 19) x1) + (G206 N 0)))) 18 (updZ (N 18) x1 (((N 18) x1) + (G206 (upZ N 19 (updZ (N 19) x1 (((N 19) x1) + (G206 N 0)))) 0)))) 21 (updZ (N 21) ((24 * x1) + x7) (G52 N x5 x6 (G83 N x7)))) (G83 N x7))))), some (.int (J (x6 + (G54 (upZ (upZ (upZ N 19 (updZ (N 19) x1 (((N 19) x1) + (G206 N 0)))) 18 (updZ (N 18) x1 (((N 18) x1) + (G206 (upZ N 19 (updZ (N 19) x1 (((N 19) x1) + (G206 N 0)))) 0)))) 21 (updZ (N 21) ((24 * x1) + x7) (G52 N x5 x6 (G83 N x7)))) (G83 N x7))))), some (.int (J (x7 + 1))), none, none] [] (hs E (jm (upZ (upZ (upZ (upZ N 19 (updZ (N 19) x1 (((N 19) x1) + (G206 N 0)))) 18 (updZ (N 18) x1 (((N 18) x1) + (G206 (upZ N 19 (updZ (N 19) x1 (((N 19) x1) + (G206 N 0)))) 0)))) 21 (updZ (N 21) ((24 * x1) + x7) (G52 N x5 x6 (G83 N x7)))) 20 (updZ (N 20) (((25 * x1) + x7) + 1) (G48 (upZ (upZ (upZ N 19 (updZ (N 19) x1 (((N 19) x1) + (G206 N 0)))) 18 (updZ (N 18) x1 (((N 18) x1) + (G206 (upZ N 19 (updZ (N 19) x1 (((N 19) x1) + (G206 N 0)))) 0)))) 21 (updZ (N 21) ((24 * x1) + x7) (G52 N x5 x6 (G83 N x7)))) (x5 + (G53 (upZ (upZ (upZ N 19 (updZ (N 19) x1 (((N 19) x1) + (G206 N 0)))) 18 (updZ (N 18) x1 (((N 18) x1) + (G206 (upZ N 19 (updZ (N 19) x1 (((N 19) x1) + (G206 N 0)))) 0)))) 21 (updZ (N 21) ((24 * x1) + x7) (G52 N x5 x6 (G83 N x7)))) (G83 N x7))) (x6 + (G54 (upZ (upZ (upZ N 19 (updZ (N 19) x1 (((N 19) x1) + (G206 N 0)))) 18 (updZ (N 18) x1 (((N 18) x1) + (G206 (upZ N 19 (updZ (N 19) x1 (((N 19) x1) + (G206 N 0)))) 0)))) 21 (updZ (N 21) ((24 * x1) + x7) (G52 N x5 x6 (G83 N x7)))) (G83 N x7)))))))) res)))))) ∧ (¬ x7 ≤ 0 → ((Q83 (upZ N 19 (updZ (N 19) x1 (((N 19) x1) + (G206 N 0)))) (x7 - 1)) ∧ ((R (G83 N x7)) ∧ ((R (G83 (upZ N 19 (updZ (N 19) x1 (((N 19) x1) + (G206 N 0)))) (x7 - 1))) ∧ (((G83 N x7) = (G83 (upZ N 19 (updZ (N 19) x1 (((N 19) x1) + (G206 N 0)))) (x7 - 1)) → ((Q206 (upZ N 19 (updZ (N 19) x1 (((N 19) x1) + (G206 N 0)))) 0) ∧ ((0 ≤ ((24 * x1) + x7) ∧ ((24 * x1) + x7) < 720) ∧ ((Q53 (upZ (upZ (upZ N 19 (updZ (N 19) x1 (((N 19) x1) + (G206 N 0)))) 18 (updZ (N 18) x1 (((N 18) x1) + (G206 (upZ N 19 (updZ (N 19) x1 (((N 19) x1) + (G206 N 0)))) 0)))) 21 (updZ (N 21) ((24 * x1) + x7) (G52 N x5 x6 (G83 N x7)))) (G83 N x7)) ∧ ((Q54 (upZ (upZ (upZ N 19 (updZ (N 19) x1 (((N 19) x1) + (G206 N 0)))) 18 (updZ (N 18) x1 (((N 18) x1) + (G206 (upZ N 19 (updZ (N 19) x1 (((N 19) x1) + (G206 N 0)))) 0)))) 21 (updZ (N 21) ((24 * x1) + x7) (G52 N x5 x6 (G83 N x7)))) (G83 N x7)) ∧ ((0 ≤ (((25 * x1) + x7) + 1) ∧ (((25 * x1) + x7) + 1) < 750) ∧ Ev 4 157 25 [some (.ref 14), some (.int (J x1)), some (.ref 12), none, none, some (.int (J (x5 + (G53 (upZ (upZ (upZ N 19 (updZ (N 19) x1 (((N 19) x1) + (G206 N 0)))) 18 (updZ (N 18) x1 (((N 18) x1) + (G206 (upZ N 19 (updZ (N 19) x1 (((N 19) x1) + (G206 N 0)))) 0)))) 21 (updZ (N 21) ((24 * x1) + x7) (G52 N x5 x6 (G83 N x7)))) (G83 N x7))))), some (.int (J (x6 + (G54 (upZ (upZ (upZ N 19 (updZ (N 19) x1 (((N 19) x1) + (G206 N 0)))) 18 (updZ (N 18) x1 (((N 18) x1) + (G206 (upZ N 19 (updZ (N 19) x1 (((N 19) x1) + (G206 N 0)))) 0)))) 21 (updZ (N 21) ((24 * x1) + x7) (G52 N x5 x6 (G83 N x7)))) (G83 N x7))))), some (.int (J (x7 + 1))), none, none] [] (hs E (jm (upZ (upZ (upZ (upZ N 19 (updZ (N 19) x1 (((N 19) x1) + (G206 N 0)))) 18 (updZ (N 18) x1 (((N 18) x1) + (G206 (upZ N 19 (updZ (N 19) x1 (((N 19) x1) + (G206 N 0)))) 0)))) 21 (updZ (N 21) ((24 * x1) + x7) (G52 N x5 x6 (G83 N x7)))) 20 (updZ (N 20) (((25 * x1) + x7) + 1) (G48 (upZ (upZ (upZ N 19 (updZ (N 19) x1 (((N 19) x1) + (G206 N 0)))) 18 (updZ (N 18) x1 (((N 18) x1) + (G206 (upZ N 19 (updZ (N 19) x1 (((N 19) x1) + (G206 N 0)))) 0)))) 21 (updZ (N 21) ((24 * x1) + x7) (G52 N x5 x6 (G83 N x7)))) (x5 + (G53 (upZ (upZ (upZ N 19 (updZ (N 19) x1 (((N 19) x1) + (G206 N 0)))) 18 (updZ (N 18) x1 (((N 18) x1) + (G206 (upZ N 19 (updZ (N 19) x1 (((N 19) x1) + (G206 N 0)))) 0)))) 21 (updZ (N 21) ((24 * x1) + x7) (G52 N x5 x6 (G83 N x7)))) (G83 N x7))) (x6 + (G54 (upZ (upZ (upZ N 19 (updZ (N 19) x1 (((N 19) x1) + (G206 N 0)))) 18 (updZ (N 18) x1 (((N 18) x1) + (G206 (upZ N 19 (updZ (N 19) x1 (((N 19) x1) + (G206 N 0)))) 0)))) 21 (updZ (N 21) ((24 * x1) + x7) (G52 N x5 x6 (G83 N x7)))) (G83 N x7)))))))) res)))))) ∧ (¬ (G83 N x7) = (G83 (upZ N 19 (updZ (N 19) x1 (((N 19) x1) + (G206 N 0)))) (x7 - 1)) → ((Q206 (upZ N 19 (updZ (N 19) x1 (((N 19) x1) + (G206 N 0)))) 1) ∧ ((0 ≤ ((24 * x1) + x7) ∧ ((24 * x1) + x7) < 720) ∧ ((Q53 (upZ (upZ (upZ N 19 (updZ (N 19) x1 (((N 19) x1) + (G206 N 0)))) 18 (updZ (N 18) x1 (((N 18) x1) + (G206 (upZ N 19 (updZ (N 19) x1 (((N 19) x1) + (G206 N 0)))) 1)))) 21 (updZ (N 21) ((24 * x1) + x7) (G52 N x5 x6 (G83 N x7)))) (G83 N x7)) ∧ ((Q54 (upZ (upZ (upZ N 19 (updZ (N 19) x1 (((N 19) x1) + (G206 N 0)))) 18 (updZ (N 18) x1 (((N 18) x1) + (G206 (upZ N 19 (updZ (N 19) x1 (((N 19) x1) + (G206 N 0)))) 1)))) 21 (updZ (N 21) ((24 * x1) + x7) (G52 N x5 x6 (G83 N x7)))) (G83 N x7)) ∧ ((0 ≤ (((25 * x1) + x7) + 1) ∧ (((25 * x1) + x7) + 1) < 750) ∧ Ev 4 157 25 [some (.ref 14), some (.int (J x1)), some (.ref 12), none, none, some (.int (J (x5 + (G53 (upZ (upZ (upZ N 19 (updZ (N 19) x1 (((N 19) x1) + (G206 N 0)))) 18 (updZ (N 18) x1 (((N 18) x1) + (G206 (upZ N 19 (updZ (N 19) x1 (((N 19) x1) + (G206 N 0)))) 1)))) 21 (updZ (N 21) ((24 * x1) + x7) (G52 N x5 x6 (G83 N x7)))) (G83 N x7))))), some (.int (J (x6 + (G54 (upZ (upZ (upZ N 19 (updZ (N 19) x1 (((N 19) x1) + (G206 N 0)))) 18 (updZ (N 18) x1 (((N 18) x1) + (G206 (upZ N 19 (updZ (N 19) x1 (((N 19) x1) + (G206 N 0)))) 1)))) 21 (updZ (N 21) ((24 * x1) + x7) (G52 N x5 x6 (G83 N x7)))) (G83 N x7))))), some (.int (J (x7 + 1))), none, none] [] (hs E (jm (upZ (upZ (upZ (upZ N 19 (updZ (N 19) x1 (((N 19) x1) + (G206 N 0)))) 18 (updZ (N 18) x1 (((N 18) x1) + (G206 (upZ N 19 (updZ (N 19) x1 (((N 19) x1) + (G206 N 0)))) 1)))) 21 (updZ (N 21) ((24 * x1) + x7) (G52 N x5 x6 (G83 N x7)))) 20 (updZ (N 20) (((25 * x1) + x7) + 1) (G48 (upZ (upZ (upZ N 19 (updZ (N 19) x1 (((N 19) x1) + (G206 N 0)))) 18 (updZ (N 18) x1 (((N 18) x1) + (G206 (upZ N 19 (updZ (N 19) x1 (((N 19) x1) + (G206 N 0)))) 1)))) 21 (updZ (N 21) ((24 * x1) + x7) (G52 N x5 x6 (G83 N x7)))) (x5 + (G53 (upZ (upZ (upZ N 19 (updZ (N 19) x1 (((N 19) x1) + (G206 N 0)))) 18 (updZ (N 18) x1 (((N 18) x1) + (G206 (upZ N 19 (updZ (N 19) x1 (((N 19) x1) + (G206 N 0)))) 1)))) 21 (updZ (N 21) ((24 * x1) + x7) (G52 N x5 x6 (G83 N x7)))) (G83 N x7))) (x6 + (G54 (upZ (upZ (upZ N 19 (updZ (N 19) x1 (((N 19) x1) + (G206 N 0)))) 18 (updZ (N 18) x1 (((N 18) x1) + (G206 (upZ N 19 (updZ (N 19) x1 (((N 19) x1) + (G206 N 0)))) 1)))) 21 (updZ (N 21) ((24 * x1) + x7) (G52 N x5 x6 (G83 N x7)))) (G83 N x7)))))))) res))))))))))))))))))))))))) : Ev 4 157 25 [some (.ref 14), some (.int (J x1)), some (.ref 12), none, none, some (.int (J x5)), some (.int (J x6)), some (.int (J x7)), none, none] [] (hs E (jm N)) res := by
  refine w157_25 ?_
  obtain ⟨q1, H⟩ := H
  refine ⟨inb_J rfl q1 (by decide), ?_⟩
  obtain ⟨q2, q3, H⟩ := H
  refine ⟨fun hc => ?_, fun hc => ?_⟩
  · replace H := H.1 ((le_J (rd_J (jf_base _ _) rfl q1 (by decide)) rfl q2 q3).mp hc)
    exact H.trans (rt_n rfl)
  · replace H := H.2 (fun hz => hc ((le_J (rd_J (jf_base _ _) rfl q1 (by decide)) rfl q2 q3).mpr hz))
    obtain ⟨q4, H⟩ := H
    refine ⟨Eq.mpr (congr (congrArg P83 rfl) rfl) (p83 q4), ?_⟩
    obtain ⟨q5, H⟩ := H
    refine ⟨inb_J rfl q1 (by decide), ?_⟩
    obtain ⟨r1, q45, H⟩ := H
    refine ⟨J r1, Rn_to (clx (cai rfl (cai rfl (cai ((congr (congr (congr (congrArg F52 rfl) rfl) rfl) ((congr (congrArg F83 rfl) rfl).trans (t83 q4))).trans (t52 q5)) rfl)))) rfl rfl q45, ?_⟩
    obtain ⟨q6, H⟩ := H
    refine ⟨fun hc => ?_, fun hc => ?_⟩
    · replace H := H.1 ((eq_J rfl jl_0 q6 (by decide)).mp hc)
      obtain ⟨q7, H⟩ := H
      refine ⟨inb_J rfl q1 (by decide), ?_⟩
      refine ⟨inb_J rfl q1 (by decide), ?_⟩
      refine ⟨fun hc => ?_, fun hc => ?_⟩
      · replace H := H.1 ((le_J rfl jl_0 q3 (by decide)).mp hc)
        obtain ⟨q8, H⟩ := H
        refine ⟨inb_J rfl q1 (by decide), ?_⟩
        obtain ⟨q9, H⟩ := H
        refine ⟨inb_J (add_J (mul_J jl_24 rfl) rfl) q9 (by decide), ?_⟩
        obtain ⟨q10, H⟩ := H
        obtain ⟨q11, H⟩ := H
        obtain ⟨q12, H⟩ := H
        refine ⟨inb_J (add_J (add_J (mul_J jl_25 rfl) rfl) jl_1) q12 (by decide), ?_⟩
        exact Ev_to (clx (cli rfl (clx (clx (clx (cli (add_J rfl ((congr (congrArg F53 (jm_up (jm_up (jm_up rfl (jf_upd (jf_base _ _) rfl q1 (by decide) (add_J (rd_J (jf_base _ _) rfl q1 (by decide)) ((congr (congrArg F206 rfl) jl_1).trans (t206 q7))))) (jf_upd (jf_base _ _) rfl q1 (by decide) (add_J (rd_J (jf_base _ _) rfl q1 (by decide)) ((congr (congrArg F206 (jm_up rfl (jf_upd (jf_base _ _) rfl q1 (by decide) (add_J (rd_J (jf_base _ _) rfl q1 (by decide)) ((congr (congrArg F206 rfl) jl_1).trans (t206 q7)))))) jl_0).trans (t206 q8))))) (jf_upd (jf_base _ _) (add_J (mul_J jl_24 rfl) rfl) q9 (by decide) ((congr (congr (congr (congrArg F52 rfl) rfl) rfl) ((congr (congrArg F83 rfl) rfl).trans (t83 q4))).trans (t52 q5))))) ((congr (congrArg F83 rfl) rfl).trans (t83 q4))).trans (t53 q10))) (cli (add_J rfl ((congr (congrArg F54 (jm_up (jm_up (jm_up rfl (jf_upd (jf_base _ _) rfl q1 (by decide) (add_J (rd_J (jf_base _ _) rfl q1 (by decide)) ((congr (congrArg F206 rfl) jl_1).trans (t206 q7))))) (jf_upd (jf_base _ _) rfl q1 (by decide) (add_J (rd_J (jf_base _ _) rfl q1 (by decide)) ((congr (congrArg F206 (jm_up rfl (jf_upd (jf_base _ _) rfl q1 (by decide) (add_J (rd_J (jf_base _ _) rfl q1 (by decide)) ((congr (congrArg F206 rfl) jl_1).trans (t206 q7)))))) jl_0).trans (t206 q8))))) (jf_upd (jf_base _ _) (add_J (mul_J jl_24 rfl) rfl) q9 (by decide) ((congr (congr (congr (congrArg F52 rfl) rfl) rfl) ((congr (congrArg F83 rfl) rfl).trans (t83 q4))).trans (t52 q5))))) ((congr (congrArg F83 rfl) rfl).trans (t83 q4))).trans (t54 q11))) (cli (add_J rfl jl_1) (clx (clx rfl)))))))))) rfl (jm_up (jm_up (jm_up (jm_up rfl (jf_upd (jf_base _ _) rfl q1 (by decide) (add_J (rd_J (jf_base _ _) rfl q1 (by decide)) ((congr (congrArg F206 rfl) jl_1).trans (t206 q7))))) (jf_upd (jf_base _ _) rfl q1 (by decide) (add_J (rd_J (jf_base _ _) rfl q1 (by decide)) ((congr (congrArg F206 (jm_up rfl (jf_upd (jf_base _ _) rfl q1 (by decide) (add_J (rd_J (jf_base _ _) rfl q1 (by decide)) ((congr (congrArg F206 rfl) jl_1).trans (t206 q7)))))) jl_0).trans (t206 q8))))) (jf_upd (jf_base _ _) (add_J (mul_J jl_24 rfl) rfl) q9 (by decide) ((congr (congr (congr (congrArg F52 rfl) rfl) rfl) ((congr (congrArg F83 rfl) rfl).trans (t83 q4))).trans (t52 q5)))) (jf_upd (jf_base _ _) (add_J (add_J (mul_J jl_25 rfl) rfl) jl_1) q12 (by decide) ((congr (congr (congrArg F48 (jm_up (jm_up (jm_up rfl (jf_upd (jf_base _ _) rfl q1 (by decide) (add_J (rd_J (jf_base _ _) rfl q1 (by decide)) ((congr (congrArg F206 rfl) jl_1).trans (t206 q7))))) (jf_upd (jf_base _ _) rfl q1 (by decide) (add_J (rd_J (jf_base _ _) rfl q1 (by decide)) ((congr (congrArg F206 (jm_up rfl (jf_upd (jf_base _ _) rfl q1 (by decide) (add_J (rd_J (jf_base _ _) rfl q1 (by decide)) ((congr (congrArg F206 rfl) jl_1).trans (t206 q7)))))) jl_0).trans (t206 q8))))) (jf_upd (jf_base _ _) (add_J (mul_J jl_24 rfl) rfl) q9 (by decide) ((congr (congr (congr (congrArg F52 rfl) rfl) rfl) ((congr (congrArg F83 rfl) rfl).trans (t83 q4))).trans (t52 q5))))) (add_J rfl ((congr (congrArg F53 (jm_up (jm_up (jm_up rfl (jf_upd (jf_base _ _) rfl q1 (by decide) (add_J (rd_J (jf_base _ _) rfl q1 (by decide)) ((congr (congrArg F206 rfl) jl_1).trans (t206 q7))))) (jf_upd (jf_base _ _) rfl q1 (by decide) (add_J (rd_J (jf_base _ _) rfl q1 (by decide)) ((congr (congrArg F206 (jm_up rfl (jf_upd (jf_base _ _) rfl q1 (by decide) (add_J (rd_J (jf_base _ _) rfl q1 (by decide)) ((congr (congrArg F206 rfl) jl_1).trans (t206 q7)))))) jl_0).trans (t206 q8))))) (jf_upd (jf_base _ _) (add_J (mul_J jl_24 rfl) rfl) q9 (by decide) ((congr (congr (congr (congrArg F52 rfl) rfl) rfl) ((congr (congrArg F83 rfl) rfl).trans (t83 q4))).trans (t52 q5))))) ((congr (congrArg F83 rfl) rfl).trans (t83 q4))).trans (t53 q10)))) (add_J rfl ((congr (congrArg F54 (jm_up (jm_up (jm_up rfl (jf_upd (jf_base _ _) rfl q1 (by decide) (add_J (rd_J (jf_base _ _) rfl q1 (by decide)) ((congr (congrArg F206 rfl) jl_1).trans (t206 q7))))) (jf_upd (jf_base _ _) rfl q1 (by decide) (add_J (rd_J (jf_base _ _) rfl q1 (by decide)) ((congr (congrArg F206 (jm_up rfl (jf_upd (jf_base _ _) rfl q1 (by decide) (add_J (rd_J (jf_base _ _) rfl q1 (by decide)) ((congr (congrArg F206 rfl) jl_1).trans (t206 q7)))))) jl_0).trans (t206 q8))))) (jf_upd (jf_base _ _) (add_J (mul_J jl_24 rfl) rfl) q9 (by decide) ((congr (congr (congr (congrArg F52 rfl) rfl) rfl) ((congr (congrArg F83 rfl) rfl).trans (t83 q4))).trans (t52 q5))))) ((congr (congrArg F83 rfl) rfl).trans (t83 q4))).trans (t54 q11)))).trans (t48)))) H
      · replace H := H.2 (fun hz => hc ((le_J rfl jl_0 q3 (by decide)).mpr hz))
        obtain ⟨q13, H⟩ := H
        refine ⟨Eq.mpr (congr (congrArg P83 (jm_up rfl (jf_upd (jf_base _ _) rfl q1 (by decide) (add_J (rd_J (jf_base _ _) rfl q1 (by decide)) ((congr (congrArg F206 rfl) jl_1).trans (t206 q7)))))) (sub_J rfl jl_1)) (p83 q13), ?_⟩
        obtain ⟨q14, q15, H⟩ := H
        refine ⟨fun hc => ?_, fun hc => ?_⟩
        · replace H := H.1 ((eq_J ((congr (congrArg F83 rfl) rfl).trans (t83 q4)) ((congr (congrArg F83 (jm_up rfl (jf_upd (jf_base _ _) rfl q1 (by decide) (add_J (rd_J (jf_base _ _) rfl q1 (by decide)) ((congr (congrArg F206 rfl) jl_1).trans (t206 q7)))))) (sub_J rfl jl_1)).trans (t83 q13)) q14 q15).mp hc)
          obtain ⟨q16, H⟩ := H
          refine ⟨inb_J rfl q1 (by decide), ?_⟩
          obtain ⟨q17, H⟩ := H
          refine ⟨inb_J (add_J (mul_J jl_24 rfl) rfl) q17 (by decide), ?_⟩
          obtain ⟨q18, H⟩ := H
          obtain ⟨q19, H⟩ := H
          obtain ⟨q20, H⟩ := H
          refine ⟨inb_J (add_J (add_J (mul_J jl_25 rfl) rfl) jl_1) q20 (by decide), ?_⟩
          exact Ev_to (clx (cli rfl (clx (clx (clx (cli (add_J rfl ((congr (congrArg F53 (jm_up (jm_up (jm_up rfl (jf_upd (jf_base _ _) rfl q1 (by decide) (add_J (rd_J (jf_base _ _) rfl q1 (by decide)) ((congr (congrArg F206 rfl) jl_1).trans (t206 q7))))) (jf_upd (jf_base _ _) rfl q1 (by decide) (add_J (rd_J (jf_base _ _) rfl q1 (by decide)) ((congr (congrArg F206 (jm_up rfl (jf_upd (jf_base _ _) rfl q1 (by decide) (add_J (rd_J (jf_base _ _) rfl q1 (by decide)) ((congr (congrArg F206 rfl) jl_1).trans (t206 q7)))))) jl_0).trans (t206 q16))))) (jf_upd (jf_base _ _) (add_J (mul_J jl_24 rfl) rfl) q17 (by decide) ((congr (congr (congr (congrArg F52 rfl) rfl) rfl) ((congr (congrArg F83 rfl) rfl).trans (t83 q4))).trans (t52 q5))))) ((congr (congrArg F83 rfl) rfl).trans (t83 q4))).trans (t53 q18))) (cli (add_J rfl ((congr (congrArg F54 (jm_up (jm_up (jm_up rfl (jf_upd (jf_base _ _) rfl q1 (by decide) (add_J (rd_J (jf_base _ _) rfl q1 (by decide)) ((congr (congrArg F206 rfl) jl_1).trans (t206 q7))))) (jf_upd (jf_base _ _) rfl q1 (by decide) (add_J (rd_J (jf_base _ _) rfl q1 (by decide)) ((congr (congrArg F206 (jm_up rfl (jf_upd (jf_base _ _) rfl q1 (by decide) (add_J (rd_J (jf_base _ _) rfl q1 (by decide)) ((congr (congrArg F206 rfl) jl_1).trans (t206 q7)))))) jl_0).trans (t206 q16))))) (jf_upd (jf_base _ _) (add_J (mul_J jl_24 rfl) rfl) q17 (by decide) ((congr (congr (congr (congrArg F52 rfl) rfl) rfl) ((congr (congrArg F83 rfl) rfl).trans (t83 q4))).trans (t52 q5))))) ((congr (congrArg F83 rfl) rfl).trans (t83 q4))).trans (t54 q19))) (cli (add_J rfl jl_1) (clx (clx rfl)))))))))) rfl (jm_up (jm_up (jm_up (jm_up rfl (jf_upd (jf_base _ _) rfl q1 (by decide) (add_J (rd_J (jf_base _ _) rfl q1 (by decide)) ((congr (congrArg F206 rfl) jl_1).trans (t206 q7))))) (jf_upd (jf_base _ _) rfl q1 (by decide) (add_J (rd_J (jf_base _ _) rfl q1 (by decide)) ((congr (congrArg F206 (jm_up rfl (jf_upd (jf_base _ _) rfl q1 (by decide) (add_J (rd_J (jf_base _ _) rfl q1 (by decide)) ((congr (congrArg F206 rfl) jl_1).trans (t206 q7)))))) jl_0).trans (t206 q16))))) (jf_upd (jf_base _ _) (add_J (mul_J jl_24 rfl) rfl) q17 (by decide) ((congr (congr (congr (congrArg F52 rfl) rfl) rfl) ((congr (congrArg F83 rfl) rfl).trans (t83 q4))).trans (t52 q5)))) (jf_upd (jf_base _ _) (add_J (add_J (mul_J jl_25 rfl) rfl) jl_1) q20 (by decide) ((congr (congr (congrArg F48 (jm_up (jm_up (jm_up rfl (jf_upd (jf_base _ _) rfl q1 (by decide) (add_J (rd_J (jf_base _ _) rfl q1 (by decide)) ((congr (congrArg F206 rfl) jl_1).trans (t206 q7))))) (jf_upd (jf_base _ _) rfl q1 (by decide) (add_J (rd_J (jf_base _ _) rfl q1 (by decide)) ((congr (congrArg F206 (jm_up rfl (jf_upd (jf_base _ _) rfl q1 (by decide) (add_J (rd_J (jf_base _ _) rfl q1 (by decide)) ((congr (congrArg F206 rfl) jl_1).trans (t206 q7)))))) jl_0).trans (t206 q16))))) (jf_upd (jf_base _ _) (add_J (mul_J jl_24 rfl) rfl) q17 (by decide) ((congr (congr (congr (congrArg F52 rfl) rfl) rfl) ((congr (congrArg F83 rfl) rfl).trans (t83 q4))).trans (t52 q5))))) (add_J rfl ((congr (congrArg F53 (jm_up (jm_up (jm_up rfl (jf_upd (jf_base _ _) rfl q1 (by decide) (add_J (rd_J (jf_base _ _) rfl q1 (by decide)) ((congr (congrArg F206 rfl) jl_1).trans (t206 q7))))) (jf_upd (jf_base _ _) rfl q1 (by decide) (add_J (rd_J (jf_base _ _) rfl q1 (by decide)) ((congr (congrArg F206 (jm_up rfl (jf_upd (jf_base _ _) rfl q1 (by decide) (add_J (rd_J (jf_base _ _) rfl q1 (by decide)) ((congr (congrArg F206 rfl) jl_1).trans (t206 q7)))))) jl_0).trans (t206 q16))))) (jf_upd (jf_base _ _) (add_J (mul_J jl_24 rfl) rfl) q17 (by decide) ((congr (congr (congr (congrArg F52 rfl) rfl) rfl) ((congr (congrArg F83 rfl) rfl).trans (t83 q4))).trans (t52 q5))))) ((congr (congrArg F83 rfl) rfl).trans (t83 q4))).trans (t53 q18)))) (add_J rfl ((congr (congrArg F54 (jm_up (jm_up (jm_up rfl (jf_upd (jf_base _ _) rfl q1 (by decide) (add_J (rd_J (jf_base _ _) rfl q1 (by decide)) ((congr (congrArg F206 rfl) jl_1).trans (t206 q7))))) (jf_upd (jf_base _ _) rfl q1 (by decide) (add_J (rd_J (jf_base _ _) rfl q1 (by decide)) ((congr (congrArg F206 (jm_up rfl (jf_upd (jf_base _ _) rfl q1 (by decide) (add_J (rd_J (jf_base _ _) rfl q1 (by decide)) ((congr (congrArg F206 rfl) jl_1).trans (t206 q7)))))) jl_0).trans (t206 q16))))) (jf_upd (jf_base _ _) (add_J (mul_J jl_24 rfl) rfl) q17 (by decide) ((congr (congr (congr (congrArg F52 rfl) rfl) rfl) ((congr (congrArg F83 rfl) rfl).trans (t83 q4))).trans (t52 q5))))) ((congr (congrArg F83 rfl) rfl).trans (t83 q4))).trans (t54 q19)))).trans (t48)))) H
        · replace H := H.2 (fun hz => hc ((eq_J ((congr (congrArg F83 rfl) rfl).trans (t83 q4)) ((congr (congrArg F83 (jm_up rfl (jf_upd (jf_base _ _) rfl q1 (by decide) (add_J (rd_J (jf_base _ _) rfl q1 (by decide)) ((congr (congrArg F206 rfl) jl_1).trans (t206 q7)))))) (sub_J rfl jl_1)).trans (t83 q13)) q14 q15).mpr hz))
          obtain ⟨q21, H⟩ := H
          refine ⟨inb_J rfl q1 (by decide), ?_⟩
          obtain ⟨q22, H⟩ := H
          refine ⟨inb_J (add_J (mul_J jl_24 rfl) rfl) q22 (by decide), ?_⟩
          obtain ⟨q23, H⟩ := H
          obtain ⟨q24, H⟩ := H
          obtain ⟨q25, H⟩ := H
          refine ⟨inb_J (add_J (add_J (mul_J jl_25 rfl) rfl) jl_1) q25 (by decide), ?_⟩
          exact Ev_to (clx (cli rfl (clx (clx (clx (cli (add_J rfl ((congr (congrArg F53 (jm_up (jm_up (jm_up rfl (jf_upd (jf_base _ _) rfl q1 (by decide) (add_J (rd_J (jf_base _ _) rfl q1 (by decide)) ((congr (congrArg F206 rfl) jl_1).trans (t206 q7))))) (jf_upd (jf_base _ _) rfl q1 (by decide) (add_J (rd_J (jf_base _ _) rfl q1 (by decide)) ((congr (congrArg F206 (jm_up rfl (jf_upd (jf_base _ _) rfl q1 (by decide) (add_J (rd_J (jf_base _ _) rfl q1 (by decide)) ((congr (congrArg F206 rfl) jl_1).trans (t206 q7)))))) jl_1).trans (t206 q21))))) (jf_upd (jf_base _ _) (add_J (mul_J jl_24 rfl) rfl) q22 (by decide) ((congr (congr (congr (congrArg F52 rfl) rfl) rfl) ((congr (congrArg F83 rfl) rfl).trans (t83 q4))).trans (t52 q5))))) ((congr (congrArg F83 rfl) rfl).trans (t83 q4))).trans (t53 q23))) (cli (add_J rfl ((congr (congrArg F54 (jm_up (jm_up (jm_up rfl (jf_upd (jf_base _ _) rfl q1 (by decide) (add_J (rd_J (jf_base _ _) rfl q1 (by decide)) ((congr (congrArg F206 rfl) jl_1).trans (t206 q7))))) (jf_upd (jf_base _ _) rfl q1 (by decide) (add_J (rd_J (jf_base _ _) rfl q1 (by decide)) ((congr (congrArg F206 (jm_up rfl (jf_upd (jf_base _ _) rfl q1 (by decide) (add_J (rd_J (jf_base _ _) rfl q1 (by decide)) ((congr (congrArg F206 rfl) jl_1).trans (t206 q7)))))) jl_1).trans (t206 q21))))) (jf_upd (jf_base _ _) (add_J (mul_J jl_24 rfl) rfl) q22 (by decide) ((congr (congr (congr (congrArg F52 rfl) rfl) rfl) ((congr (congrArg F83 rfl) rfl).trans (t83 q4))).trans (t52 q5))))) ((congr (congrArg F83 rfl) rfl).trans (t83 q4))).trans (t54 q24))) (cli (add_J rfl jl_1) (clx (clx rfl)))))))))) rfl (jm_up (jm_up (jm_up (jm_up rfl (jf_upd (jf_base _ _) rfl q1 (by decide) (add_J (rd_J (jf_base _ _) rfl q1 (by decide)) ((congr (congrArg F206 rfl) jl_1).trans (t206 q7))))) (jf_upd (jf_base _ _) rfl q1 (by decide) (add_J (rd_J (jf_base _ _) rfl q1 (by decide)) ((congr (congrArg F206 (jm_up rfl (jf_upd (jf_base _ _) rfl q1 (by decide) (add_J (rd_J (jf_base _ _) rfl q1 (by decide)) ((congr (congrArg F206 rfl) jl_1).trans (t206 q7)))))) jl_1).trans (t206 q21))))) (jf_upd (jf_base _ _) (add_J (mul_J jl_24 rfl) rfl) q22 (by decide) ((congr (congr (congr (congrArg F52 rfl) rfl) rfl) ((congr (congrArg F83 rfl) rfl).trans (t83 q4))).trans (t52 q5)))) (jf_upd (jf_base _ _) (add_J (add_J (mul_J jl_25 rfl) rfl) jl_1) q25 (by decide) ((congr (congr (congrArg F48 (jm_up (jm_up (jm_up rfl (jf_upd (jf_base _ _) rfl q1 (by decide) (add_J (rd_J (jf_base _ _) rfl q1 (by decide)) ((congr (congrArg F206 rfl) jl_1).trans (t206 q7))))) (jf_upd (jf_base _ _) rfl q1 (by decide) (add_J (rd_J (jf_base _ _) rfl q1 (by decide)) ((congr (congrArg F206 (jm_up rfl (jf_upd (jf_base _ _) rfl q1 (by decide) (add_J (rd_J (jf_base _ _) rfl q1 (by decide)) ((congr (congrArg F206 rfl) jl_1).trans (t206 q7)))))) jl_1).trans (t206 q21))))) (jf_upd (jf_base _ _) (add_J (mul_J jl_24 rfl) rfl) q22 (by decide) ((congr (congr (congr (congrArg F52 rfl) rfl) rfl) ((congr (congrArg F83 rfl) rfl).trans (t83 q4))).trans (t52 q5))))) (add_J rfl ((congr (congrArg F53 (jm_up (jm_up (jm_up rfl (jf_upd (jf_base _ _) rfl q1 (by decide) (add_J (rd_J (jf_base _ _) rfl q1 (by decide)) ((congr (congrArg F206 rfl) jl_1).trans (t206 q7))))) (jf_upd (jf_base _ _) rfl q1 (by decide) (add_J (rd_J (jf_base _ _) rfl q1 (by decide)) ((congr (congrArg F206 (jm_up rfl (jf_upd (jf_base _ _) rfl q1 (by decide) (add_J (rd_J (jf_base _ _) rfl q1 (by decide)) ((congr (congrArg F206 rfl) jl_1).trans (t206 q7)))))) jl_1).trans (t206 q21))))) (jf_upd (jf_base _ _) (add_J (mul_J jl_24 rfl) rfl) q22 (by decide) ((congr (congr (congr (congrArg F52 rfl) rfl) rfl) ((congr (congrArg F83 rfl) rfl).trans (t83 q4))).trans (t52 q5))))) ((congr (congrArg F83 rfl) rfl).trans (t83 q4))).trans (t53 q23)))) (add_J rfl ((congr (congrArg F54 (jm_up (jm_up (jm_up rfl (jf_upd (jf_base _ _) rfl q1 (by decide) (add_J (rd_J (jf_base _ _) rfl q1 (by decide)) ((congr (congrArg F206 rfl) jl_1).trans (t206 q7))))) (jf_upd (jf_base _ _) rfl q1 (by decide) (add_J (rd_J (jf_base _ _) rfl q1 (by decide)) ((congr (congrArg F206 (jm_up rfl (jf_upd (jf_base _ _) rfl q1 (by decide) (add_J (rd_J (jf_base _ _) rfl q1 (by decide)) ((congr (congrArg F206 rfl) jl_1).trans (t206 q7)))))) jl_1).trans (t206 q21))))) (jf_upd (jf_base _ _) (add_J (mul_J jl_24 rfl) rfl) q22 (by decide) ((congr (congr (congr (congrArg F52 rfl) rfl) rfl) ((congr (congrArg F83 rfl) rfl).trans (t83 q4))).trans (t52 q5))))) ((congr (congrArg F83 rfl) rfl).trans (t83 q4))).trans (t54 q24)))).trans (t48)))) H
    · replace H := H.2 (fun hz => hc ((eq_J rfl jl_0 q6 (by decide)).mpr hz))
      obtain ⟨q26, H⟩ := H
      refine ⟨inb_J rfl q1 (by decide), ?_⟩
      refine ⟨inb_J rfl q1 (by decide), ?_⟩
      refine ⟨fun hc => ?_, fun hc => ?_⟩
      · replace H := H.1 ((le_J rfl jl_0 q3 (by decide)).mp hc)
        obtain ⟨q27, H⟩ := H
        refine ⟨inb_J rfl q1 (by decide), ?_⟩
        obtain ⟨q28, H⟩ := H
        refine ⟨inb_J (add_J (mul_J jl_24 rfl) rfl) q28 (by decide), ?_⟩
        obtain ⟨q29, H⟩ := H
        obtain ⟨q30, H⟩ := H
        obtain ⟨q31, H⟩ := H
        refine ⟨inb_J (add_J (add_J (mul_J jl_25 rfl) rfl) jl_1) q31 (by decide), ?_⟩
        exact Ev_to (clx (cli rfl (clx (clx (clx (cli (add_J rfl ((congr (congrArg F53 (jm_up (jm_up (jm_up rfl (jf_upd (jf_base _ _) rfl q1 (by decide) (add_J (rd_J (jf_base _ _) rfl q1 (by decide)) ((congr (congrArg F206 rfl) jl_0).trans (t206 q26))))) (jf_upd (jf_base _ _) rfl q1 (by decide) (add_J (rd_J (jf_base _ _) rfl q1 (by decide)) ((congr (congrArg F206 (jm_up rfl (jf_upd (jf_base _ _) rfl q1 (by decide) (add_J (rd_J (jf_base _ _) rfl q1 (by decide)) ((congr (congrArg F206 rfl) jl_0).trans (t206 q26)))))) jl_0).trans (t206 q27))))) (jf_upd (jf_base _ _) (add_J (mul_J jl_24 rfl) rfl) q28 (by decide) ((congr (congr (congr (congrArg F52 rfl) rfl) rfl) ((congr (congrArg F83 rfl) rfl).trans (t83 q4))).trans (t52 q5))))) ((congr (congrArg F83 rfl) rfl).trans (t83 q4))).trans (t53 q29))) (cli (add_J rfl ((congr (congrArg F54 (jm_up (jm_up (jm_up rfl (jf_upd (jf_base _ _) rfl q1 (by decide) (add_J (rd_J (jf_base _ _) rfl q1 (by decide)) ((congr (congrArg F206 rfl) jl_0).trans (t206 q26))))) (jf_upd (jf_base _ _) rfl q1 (by decide) (add_J (rd_J (jf_base _ _) rfl q1 (by decide)) ((congr (congrArg F206 (jm_up rfl (jf_upd (jf_base _ _) rfl q1 (by decide) (add_J (rd_J (jf_base _ _) rfl q1 (by decide)) ((congr (congrArg F206 rfl) jl_0).trans (t206 q26)))))) jl_0).trans (t206 q27))))) (jf_upd (jf_base _ _) (add_J (mul_J jl_24 rfl) rfl) q28 (by decide) ((congr (congr (congr (congrArg F52 rfl) rfl) rfl) ((congr (congrArg F83 rfl) rfl).trans (t83 q4))).trans (t52 q5))))) ((congr (congrArg F83 rfl) rfl).trans (t83 q4))).trans (t54 q30))) (cli (add_J rfl jl_1) (clx (clx rfl)))))))))) rfl (jm_up (jm_up (jm_up (jm_up rfl (jf_upd (jf_base _ _) rfl q1 (by decide) (add_J (rd_J (jf_base _ _) rfl q1 (by decide)) ((congr (congrArg F206 rfl) jl_0).trans (t206 q26))))) (jf_upd (jf_base _ _) rfl q1 (by decide) (add_J (rd_J (jf_base _ _) rfl q1 (by decide)) ((congr (congrArg F206 (jm_up rfl (jf_upd (jf_base _ _) rfl q1 (by decide) (add_J (rd_J (jf_base _ _) rfl q1 (by decide)) ((congr (congrArg F206 rfl) jl_0).trans (t206 q26)))))) jl_0).trans (t206 q27))))) (jf_upd (jf_base _ _) (add_J (mul_J jl_24 rfl) rfl) q28 (by decide) ((congr (congr (congr (congrArg F52 rfl) rfl) rfl) ((congr (congrArg F83 rfl) rfl).trans (t83 q4))).trans (t52 q5)))) (jf_upd (jf_base _ _) (add_J (add_J (mul_J jl_25 rfl) rfl) jl_1) q31 (by decide) ((congr (congr (congrArg F48 (jm_up (jm_up (jm_up rfl (jf_upd (jf_base _ _) rfl q1 (by decide) (add_J (rd_J (jf_base _ _) rfl q1 (by decide)) ((congr (congrArg F206 rfl) jl_0).trans (t206 q26))))) (jf_upd (jf_base _ _) rfl q1 (by decide) (add_J (rd_J (jf_base _ _) rfl q1 (by decide)) ((congr (congrArg F206 (jm_up rfl (jf_upd (jf_base _ _) rfl q1 (by decide) (add_J (rd_J (jf_base _ _) rfl q1 (by decide)) ((congr (congrArg F206 rfl) jl_0).trans (t206 q26)))))) jl_0).trans (t206 q27))))) (jf_upd (jf_base _ _) (add_J (mul_J jl_24 rfl) rfl) q28 (by decide) ((congr (congr (congr (congrArg F52 rfl) rfl) rfl) ((congr (congrArg F83 rfl) rfl).trans (t83 q4))).trans (t52 q5))))) (add_J rfl ((congr (congrArg F53 (jm_up (jm_up (jm_up rfl (jf_upd (jf_base _ _) rfl q1 (by decide) (add_J (rd_J (jf_base _ _) rfl q1 (by decide)) ((congr (congrArg F206 rfl) jl_0).trans (t206 q26))))) (jf_upd (jf_base _ _) rfl q1 (by decide) (add_J (rd_J (jf_base _ _) rfl q1 (by decide)) ((congr (congrArg F206 (jm_up rfl (jf_upd (jf_base _ _) rfl q1 (by decide) (add_J (rd_J (jf_base _ _) rfl q1 (by decide)) ((congr (congrArg F206 rfl) jl_0).trans (t206 q26)))))) jl_0).trans (t206 q27))))) (jf_upd (jf_base _ _) (add_J (mul_J jl_24 rfl) rfl) q28 (by decide) ((congr (congr (congr (congrArg F52 rfl) rfl) rfl) ((congr (congrArg F83 rfl) rfl).trans (t83 q4))).trans (t52 q5))))) ((congr (congrArg F83 rfl) rfl).trans (t83 q4))).trans (t53 q29)))) (add_J rfl ((congr (congrArg F54 (jm_up (jm_up (jm_up rfl (jf_upd (jf_base _ _) rfl q1 (by decide) (add_J (rd_J (jf_base _ _) rfl q1 (by decide)) ((congr (congrArg F206 rfl) jl_0).trans (t206 q26))))) (jf_upd (jf_base _ _) rfl q1 (by decide) (add_J (rd_J (jf_base _ _) rfl q1 (by decide)) ((congr (congrArg F206 (jm_up rfl (jf_upd (jf_base _ _) rfl q1 (by decide) (add_J (rd_J (jf_base _ _) rfl q1 (by decide)) ((congr (congrArg F206 rfl) jl_0).trans (t206 q26)))))) jl_0).trans (t206 q27))))) (jf_upd (jf_base _ _) (add_J (mul_J jl_24 rfl) rfl) q28 (by decide) ((congr (congr (congr (congrArg F52 rfl) rfl) rfl) ((congr (congrArg F83 rfl) rfl).trans (t83 q4))).trans (t52 q5))))) ((congr (congrArg F83 rfl) rfl).trans (t83 q4))).trans (t54 q30)))).trans (t48)))) H
      · replace H := H.2 (fun hz => hc ((le_J rfl jl_0 q3 (by decide)).mpr hz))
        obtain ⟨q32, H⟩ := H
        refine ⟨Eq.mpr (congr (congrArg P83 (jm_up rfl (jf_upd (jf_base _ _) rfl q1 (by decide) (add_J (rd_J (jf_base _ _) rfl q1 (by decide)) ((congr (congrArg F206 rfl) jl_0).trans (t206 q26)))))) (sub_J rfl jl_1)) (p83 q32), ?_⟩
        obtain ⟨q33, q34, H⟩ := H
        refine ⟨fun hc => ?_, fun hc => ?_⟩
        · replace H := H.1 ((eq_J ((congr (congrArg F83 rfl) rfl).trans (t83 q4)) ((congr (congrArg F83 (jm_up rfl (jf_upd (jf_base _ _) rfl q1 (by decide) (add_J (rd_J (jf_base _ _) rfl q1 (by decide)) ((congr (congrArg F206 rfl) jl_0).trans (t206 q26)))))) (sub_J rfl jl_1)).trans (t83 q32)) q33 q34).mp hc)
          obtain ⟨q35, H⟩ := H
          refine ⟨inb_J rfl q1 (by decide), ?_⟩
          obtain ⟨q36, H⟩ := H
          refine ⟨inb_J (add_J (mul_J jl_24 rfl) rfl) q36 (by decide), ?_⟩
          obtain ⟨q37, H⟩ := H
          obtain ⟨q38, H⟩ := H
          obtain ⟨q39, H⟩ := H
          refine ⟨inb_J (add_J (add_J (mul_J jl_25 rfl) rfl) jl_1) q39 (by decide), ?_⟩
          exact Ev_to (clx (cli rfl (clx (clx (clx (cli (add_J rfl ((congr (congrArg F53 (jm_up (jm_up (jm_up rfl (jf_upd (jf_base _ _) rfl q1 (by decide) (add_J (rd_J (jf_base _ _) rfl q1 (by decide)) ((congr (congrArg F206 rfl) jl_0).trans (t206 q26))))) (jf_upd (jf_base _ _) rfl q1 (by decide) (add_J (rd_J (jf_base _ _) rfl q1 (by decide)) ((congr (congrArg F206 (jm_up rfl (jf_upd (jf_base _ _) rfl q1 (by decide) (add_J (rd_J (jf_base _ _) rfl q1 (by decide)) ((congr (congrArg F206 rfl) jl_0).trans (t206 q26)))))) jl_0).trans (t206 q35))))) (jf_upd (jf_base _ _) (add_J (mul_J jl_24 rfl) rfl) q36 (by decide) ((congr (congr (congr (congrArg F52 rfl) rfl) rfl) ((congr (congrArg F83 rfl) rfl).trans (t83 q4))).trans (t52 q5))))) ((congr (congrArg F83 rfl) rfl).trans (t83 q4))).trans (t53 q37))) (cli (add_J rfl ((congr (congrArg F54 (jm_up (jm_up (jm_up rfl (jf_upd (jf_base _ _) rfl q1 (by decide) (add_J (rd_J (jf_base _ _) rfl q1 (by decide)) ((congr (congrArg F206 rfl) jl_0).trans (t206 q26))))) (jf_upd (jf_base _ _) rfl q1 (by decide) (add_J (rd_J (jf_base _ _) rfl q1 (by decide)) ((congr (congrArg F206 (jm_up rfl (jf_upd (jf_base _ _) rfl q1 (by decide) (add_J (rd_J (jf_base _ _) rfl q1 (by decide)) ((congr (congrArg F206 rfl) jl_0).trans (t206 q26)))))) jl_0).trans (t206 q35))))) (jf_upd (jf_base _ _) (add_J (mul_J jl_24 rfl) rfl) q36 (by decide) ((congr (congr (congr (congrArg F52 rfl) rfl) rfl) ((congr (congrArg F83 rfl) rfl).trans (t83 q4))).trans (t52 q5))))) ((congr (congrArg F83 rfl) rfl).trans (t83 q4))).trans (t54 q38))) (cli (add_J rfl jl_1) (clx (clx rfl)))))))))) rfl (jm_up (jm_up (jm_up (jm_up rfl (jf_upd (jf_base _ _) rfl q1 (by decide) (add_J (rd_J (jf_base _ _) rfl q1 (by decide)) ((congr (congrArg F206 rfl) jl_0).trans (t206 q26))))) (jf_upd (jf_base _ _) rfl q1 (by decide) (add_J (rd_J (jf_base _ _) rfl q1 (by decide)) ((congr (congrArg F206 (jm_up rfl (jf_upd (jf_base _ _) rfl q1 (by decide) (add_J (rd_J (jf_base _ _) rfl q1 (by decide)) ((congr (congrArg F206 rfl) jl_0).trans (t206 q26)))))) jl_0).trans (t206 q35))))) (jf_upd (jf_base _ _) (add_J (mul_J jl_24 rfl) rfl) q36 (by decide) ((congr (congr (congr (congrArg F52 rfl) rfl) rfl) ((congr (congrArg F83 rfl) rfl).trans (t83 q4))).trans (t52 q5)))) (jf_upd (jf_base _ _) (add_J (add_J (mul_J jl_25 rfl) rfl) jl_1) q39 (by decide) ((congr (congr (congrArg F48 (jm_up (jm_up (jm_up rfl (jf_upd (jf_base _ _) rfl q1 (by decide) (add_J (rd_J (jf_base _ _) rfl q1 (by decide)) ((congr (congrArg F206 rfl) jl_0).trans (t206 q26))))) (jf_upd (jf_base _ _) rfl q1 (by decide) (add_J (rd_J (jf_base _ _) rfl q1 (by decide)) ((congr (congrArg F206 (jm_up rfl (jf_upd (jf_base _ _) rfl q1 (by decide) (add_J (rd_J (jf_base _ _) rfl q1 (by decide)) ((congr (congrArg F206 rfl) jl_0).trans (t206 q26)))))) jl_0).trans (t206 q35))))) (jf_upd (jf_base _ _) (add_J (mul_J jl_24 rfl) rfl) q36 (by decide) ((congr (congr (congr (congrArg F52 rfl) rfl) rfl) ((congr (congrArg F83 rfl) rfl).trans (t83 q4))).trans (t52 q5))))) (add_J rfl ((congr (congrArg F53 (jm_up (jm_up (jm_up rfl (jf_upd (jf_base _ _) rfl q1 (by decide) (add_J (rd_J (jf_base _ _) rfl q1 (by decide)) ((congr (congrArg F206 rfl) jl_0).trans (t206 q26))))) (jf_upd (jf_base _ _) rfl q1 (by decide) (add_J (rd_J (jf_base _ _) rfl q1 (by decide)) ((congr (congrArg F206 (jm_up rfl (jf_upd (jf_base _ _) rfl q1 (by decide) (add_J (rd_J (jf_base _ _) rfl q1 (by decide)) ((congr (congrArg F206 rfl) jl_0).trans (t206 q26)))))) jl_0).trans (t206 q35))))) (jf_upd (jf_base _ _) (add_J (mul_J jl_24 rfl) rfl) q36 (by decide) ((congr (congr (congr (congrArg F52 rfl) rfl) rfl) ((congr (congrArg F83 rfl) rfl).trans (t83 q4))).trans (t52 q5))))) ((congr (congrArg F83 rfl) rfl).trans (t83 q4))).trans (t53 q37)))) (add_J rfl ((congr (congrArg F54 (jm_up (jm_up (jm_up rfl (jf_upd (jf_base _ _) rfl q1 (by decide) (add_J (rd_J (jf_base _ _) rfl q1 (by decide)) ((congr (congrArg F206 rfl) jl_0).trans (t206 q26))))) (jf_upd (jf_base _ _) rfl q1 (by decide) (add_J (rd_J (jf_base _ _) rfl q1 (by decide)) ((congr (congrArg F206 (jm_up rfl (jf_upd (jf_base _ _) rfl q1 (by decide) (add_J (rd_J (jf_base _ _) rfl q1 (by decide)) ((congr (congrArg F206 rfl) jl_0).trans (t206 q26)))))) jl_0).trans (t206 q35))))) (jf_upd (jf_base _ _) (add_J (mul_J jl_24 rfl) rfl) q36 (by decide) ((congr (congr (congr (congrArg F52 rfl) rfl) rfl) ((congr (congrArg F83 rfl) rfl).trans (t83 q4))).trans (t52 q5))))) ((congr (congrArg F83 rfl) rfl).trans (t83 q4))).trans (t54 q38)))).trans (t48)))) H
        · replace H := H.2 (fun hz => hc ((eq_J ((congr (congrArg F83 rfl) rfl).trans (t83 q4)) ((congr (congrArg F83 (jm_up rfl (jf_upd (jf_base _ _) rfl q1 (by decide) (add_J (rd_J (jf_base _ _) rfl q1 (by decide)) ((congr (congrArg F206 rfl) jl_0).trans (t206 q26)))))) (sub_J rfl jl_1)).trans (t83 q32)) q33 q34).mpr hz))
          obtain ⟨q40, H⟩ := H
          refine ⟨inb_J rfl q1 (by decide), ?_⟩
          obtain ⟨q41, H⟩ := H
          refine ⟨inb_J (add_J (mul_J jl_24 rfl) rfl) q41 (by decide), ?_⟩
          obtain ⟨q42, H⟩ := H
          obtain ⟨q43, H⟩ := H
          obtain ⟨q44, H⟩ := H
          refine ⟨inb_J (add_J (add_J (mul_J jl_25 rfl) rfl) jl_1) q44 (by decide), ?_⟩
          exact Ev_to (clx (cli rfl (clx (clx (clx (cli (add_J rfl ((congr (congrArg F53 (jm_up (jm_up (jm_up rfl (jf_upd (jf_base _ _) rfl q1 (by decide) (add_J (rd_J (jf_base _ _) rfl q1 (by decide)) ((congr (congrArg F206 rfl) jl_0).trans (t206 q26))))) (jf_upd (jf_base _ _) rfl q1 (by decide) (add_J (rd_J (jf_base _ _) rfl q1 (by decide)) ((congr (congrArg F206 (jm_up rfl (jf_upd (jf_base _ _) rfl q1 (by decide) (add_J (rd_J (jf_base _ _) rfl q1 (by decide)) ((congr (congrArg F206 rfl) jl_0).trans (t206 q26)))))) jl_1).trans (t206 q40))))) (jf_upd (jf_base _ _) (add_J (mul_J jl_24 rfl) rfl) q41 (by decide) ((congr (congr (congr (congrArg F52 rfl) rfl) rfl) ((congr (congrArg F83 rfl) rfl).trans (t83 q4))).trans (t52 q5))))) ((congr (congrArg F83 rfl) rfl).trans (t83 q4))).trans (t53 q42))) (cli (add_J rfl ((congr (congrArg F54 (jm_up (jm_up (jm_up rfl (jf_upd (jf_base _ _) rfl q1 (by decide) (add_J (rd_J (jf_base _ _) rfl q1 (by decide)) ((congr (congrArg F206 rfl) jl_0).trans (t206 q26))))) (jf_upd (jf_base _ _) rfl q1 (by decide) (add_J (rd_J (jf_base _ _) rfl q1 (by decide)) ((congr (congrArg F206 (jm_up rfl (jf_upd (jf_base _ _) rfl q1 (by decide) (add_J (rd_J (jf_base _ _) rfl q1 (by decide)) ((congr (congrArg F206 rfl) jl_0).trans (t206 q26)))))) jl_1).trans (t206 q40))))) (jf_upd (jf_base _ _) (add_J (mul_J jl_24 rfl) rfl) q41 (by decide) ((congr (congr (congr (congrArg F52 rfl) rfl) rfl) ((congr (congrArg F83 rfl) rfl).trans (t83 q4))).trans (t52 q5))))) ((congr (congrArg F83 rfl) rfl).trans (t83 q4))).trans (t54 q43))) (cli (add_J rfl jl_1) (clx (clx rfl)))))))))) rfl (jm_up (jm_up (jm_up (jm_up rfl (jf_upd (jf_base _ _) rfl q1 (by decide) (add_J (rd_J (jf_base _ _) rfl q1 (by decide)) ((congr (congrArg F206 rfl) jl_0).trans (t206 q26))))) (jf_upd (jf_base _ _) rfl q1 (by decide) (add_J (rd_J (jf_base _ _) rfl q1 (by decide)) ((congr (congrArg F206 (jm_up rfl (jf_upd (jf_base _ _) rfl q1 (by decide) (add_J (rd_J (jf_base _ _) rfl q1 (by decide)) ((congr (congrArg F206 rfl) jl_0).trans (t206 q26)))))) jl_1).trans (t206 q40))))) (jf_upd (jf_base _ _) (add_J (mul_J jl_24 rfl) rfl) q41 (by decide) ((congr (congr (congr (congrArg F52 rfl) rfl) rfl) ((congr (congrArg F83 rfl) rfl).trans (t83 q4))).trans (t52 q5)))) (jf_upd (jf_base _ _) (add_J (add_J (mul_J jl_25 rfl) rfl) jl_1) q44 (by decide) ((congr (congr (congrArg F48 (jm_up (jm_up (jm_up rfl (jf_upd (jf_base _ _) rfl q1 (by decide) (add_J (rd_J (jf_base _ _) rfl q1 (by decide)) ((congr (congrArg F206 rfl) jl_0).trans (t206 q26))))) (jf_upd (jf_base _ _) rfl q1 (by decide) (add_J (rd_J (jf_base _ _) rfl q1 (by decide)) ((congr (congrArg F206 (jm_up rfl (jf_upd (jf_base _ _) rfl q1 (by decide) (add_J (rd_J (jf_base _ _) rfl q1 (by decide)) ((congr (congrArg F206 rfl) jl_0).trans (t206 q26)))))) jl_1).trans (t206 q40))))) (jf_upd (jf_base _ _) (add_J (mul_J jl_24 rfl) rfl) q41 (by decide) ((congr (congr (congr (congrArg F52 rfl) rfl) rfl) ((congr (congrArg F83 rfl) rfl).trans (t83 q4))).trans (t52 q5))))) (add_J rfl ((congr (congrArg F53 (jm_up (jm_up (jm_up rfl (jf_upd (jf_base _ _) rfl q1 (by decide) (add_J (rd_J (jf_base _ _) rfl q1 (by decide)) ((congr (congrArg F206 rfl) jl_0).trans (t206 q26))))) (jf_upd (jf_base _ _) rfl q1 (by decide) (add_J (rd_J (jf_base _ _) rfl q1 (by decide)) ((congr (congrArg F206 (jm_up rfl (jf_upd (jf_base _ _) rfl q1 (by decide) (add_J (rd_J (jf_base _ _) rfl q1 (by decide)) ((congr (congrArg F206 rfl) jl_0).trans (t206 q26)))))) jl_1).trans (t206 q40))))) (jf_upd (jf_base _ _) (add_J (mul_J jl_24 rfl) rfl) q41 (by decide) ((congr (congr (congr (congrArg F52 rfl) rfl) rfl) ((congr (congrArg F83 rfl) rfl).trans (t83 q4))).trans (t52 q5))))) ((congr (congrArg F83 rfl) rfl).trans (t83 q4))).trans (t53 q42)))) (add_J rfl ((congr (congrArg F54 (jm_up (jm_up (jm_up rfl (jf_upd (jf_base _ _) rfl q1 (by decide) (add_J (rd_J (jf_base _ _) rfl q1 (by decide)) ((congr (congrArg F206 rfl) jl_0).trans (t206 q26))))) (jf_upd (jf_base _ _) rfl q1 (by decide) (add_J (rd_J (jf_base _ _) rfl q1 (by decide)) ((congr (congrArg F206 (jm_up rfl (jf_upd (jf_base _ _) rfl q1 (by decide) (add_J (rd_J (jf_base _ _) rfl q1 (by decide)) ((congr (congrArg F206 rfl) jl_0).trans (t206 q26)))))) jl_1).trans (t206 q40))))) (jf_upd (jf_base _ _) (add_J (mul_J jl_24 rfl) rfl) q41 (by decide) ((congr (congr (congr (congrArg F52 rfl) rfl) rfl) ((congr (congrArg F83 rfl) rfl).trans (t83 q4))).trans (t52 q5))))) ((congr (congrArg F83 rfl) rfl).trans (t83 q4))).trans (t54 q43)))).trans (t48)))) H
-- 162 GlassWires letters (J)I
theorem v162_0 {E : gw_N} {N : NM} {res : Option Value × gw_H} {x1 : Int64} (H : (∃ (r1 : Int) (N1 : NM), Rn 80 [.ref 12, .long x1] (hs E (jm N)) (some (.int (J r1))) (hs E (jm N1)) ∧ res = (some (.int (J r1)), hs E (jm N1)))) : Ev 4 162 0 [some (.ref 8), some (.long x1), none] [] (hs E (jm N)) res := by
  refine w162_0 ?_
  obtain ⟨r1, N1, q1, H⟩ := H
  refine ⟨J r1, jm N1, Rn_to (clx (cal rfl rfl)) rfl rfl q1, ?_⟩
  exact H.trans (rt_i rfl rfl)
-- 185 GlassWires polish ()I
theorem v185_0 {E : gw_N} {N : NM} {res : Option Value × gw_H}  (H : (∃ (r1 : Int) (N1 : NM), Rn 25 [.ref 44] (hs E (jm N)) (some (.int (J r1))) (hs E (jm N1)) ∧ res = (some (.int (J r1)), hs E (jm N1)))) : Ev 4 185 0 [some (.ref 8)] [] (hs E (jm N)) res := by
  refine w185_0 ?_
  obtain ⟨r1, N1, q1, H⟩ := H
  refine ⟨J r1, jm N1, Rn_to (clx rfl) rfl rfl q1, ?_⟩
  exact H.trans (rt_i rfl rfl)
-- 188 GlassWires plan (I)I
theorem v188_0 {E : gw_N} {N : NM} {res : Option Value × gw_H} {x1 : Int} (H : ((Q111 N x1) ∧ ((R (G111 N x1)) ∧ (((G111 N x1) = 0 → res = (some (.int (J (-102))), hs E (jm N))) ∧ (¬ (G111 N x1) = 0 → (∃ (N1 : NM), Rn 112 [.ref 50, .int (J x1)] (hs E (jm N)) none (hs E (jm N1)) ∧ (∃ (r2 : Int), Rn 115 [.ref 50] (hs E (jm N1)) (some (.int (J r2))) (hs E (jm N1)) ∧ res = (some (.int (J r2)), hs E (jm N1))))))))) : Ev 4 188 0 [some (.ref 8), some (.int (J x1))] [] (hs E (jm N)) res := by
  refine w188_0 ?_
  obtain ⟨q1, H⟩ := H
  obtain ⟨q2, H⟩ := H
  refine ⟨fun hc => ?_, fun hc => ?_⟩
  · replace H := H.1 ((eq_J ((congr (congrArg F111 rfl) rfl).trans (t111 q1)) jl_0 q2 (by decide)).mp hc)
    exact H.trans (rt_i jl_m102 rfl)
  · replace H := H.2 (fun hz => hc ((eq_J ((congr (congrArg F111 rfl) rfl).trans (t111 q1)) jl_0 q2 (by decide)).mpr hz))
    obtain ⟨N1, q4, H⟩ := H
    refine ⟨jm N1, Rn_to (clx (cai rfl rfl)) rfl rfl q4, ?_⟩
    obtain ⟨r2, q3, H⟩ := H
    refine ⟨J r2, Rn_to (clx rfl) rfl rfl q3, ?_⟩
    exact H.trans (rt_i rfl rfl)
-- 189 GlassWires heat (II)I
theorem v189_0 {E : gw_N} {N : NM} {res : Option Value × gw_H} {x1 : Int} {x2 : Int} (H : ((Q111 N x1) ∧ ((R (G111 N x1)) ∧ (((G111 N x1) = 0 → res = (some (.int (J (-102))), hs E (jm N))) ∧ (¬ (G111 N x1) = 0 → (∃ (N1 : NM), Rn 112 [.ref 50, .int (J x1)] (hs E (jm N)) none (hs E (jm N1)) ∧ (∃ (r2 : Int), Rn 116 [.ref 50, .int (J x2)] (hs E (jm N1)) (some (.int (J r2))) (hs E (jm N1)) ∧ res = (some (.int (J r2)), hs E (jm N1))))))))) : Ev 4 189 0 [some (.ref 8), some (.int (J x1)), some (.int (J x2))] [] (hs E (jm N)) res := by
  refine w189_0 ?_
  obtain ⟨q1, H⟩ := H
  obtain ⟨q2, H⟩ := H
  refine ⟨fun hc => ?_, fun hc => ?_⟩
  · replace H := H.1 ((eq_J ((congr (congrArg F111 rfl) rfl).trans (t111 q1)) jl_0 q2 (by decide)).mp hc)
    exact H.trans (rt_i jl_m102 rfl)
  · replace H := H.2 (fun hz => hc ((eq_J ((congr (congrArg F111 rfl) rfl).trans (t111 q1)) jl_0 q2 (by decide)).mpr hz))
    obtain ⟨N1, q4, H⟩ := H
    refine ⟨jm N1, Rn_to (clx (cai rfl rfl)) rfl rfl q4, ?_⟩
    obtain ⟨r2, q3, H⟩ := H
    refine ⟨J r2, Rn_to (clx (cai rfl rfl)) rfl rfl q3, ?_⟩
    exact H.trans (rt_i rfl rfl)
-- 191 GlassWires pull (I)I
theorem v191_0 {E : gw_N} {N : NM} {res : Option Value × gw_H} {x1 : Int} (H : ((R x1) ∧ ((x1 = 0 → (∃ (r1 : Int), Rn 30 [.ref 44] (hs E (jm N)) (some (.int (J r1))) (hs E (jm N)) ∧ res = (some (.int (J r1)), hs E (jm N)))) ∧ (x1 = 1 → ((Q130 N) ∧ res = (some (.int (J (G130 N))), hs E (jm N)))) ∧ (¬ x1 = 0 → ¬ x1 = 1 → res = (some (.int (J (-102))), hs E (jm N)))))) : Ev 4 191 0 [some (.ref 8), some (.int (J x1))] [] (hs E (jm N)) res := by
  refine w191_0 ?_
  obtain ⟨q1, H⟩ := H
  refine ⟨fun hc => ?_, fun hc => ?_, fun hc0 hc1 => ?_⟩
  · replace H := (H.1) ((eq_J rfl jl_0 q1 (by decide)).mp hc)
    obtain ⟨r1, q2, H⟩ := H
    refine ⟨J r1, Rn_to (clx rfl) rfl rfl q2, ?_⟩
    exact H.trans (rt_i rfl rfl)
  · replace H := (H.2.1) ((eq_J rfl jl_1 q1 (by decide)).mp hc)
    obtain ⟨q3, H⟩ := H
    refine ⟨Eq.mpr (congrArg P130 rfl) (p130 q3), ?_⟩
    exact H.trans (rt_i ((congrArg F130 rfl).trans (t130 q3)) rfl)
  · replace H := (H.2.2) (fun hz => hc0 ((eq_J rfl jl_0 q1 (by decide)).mpr hz)) (fun hz => hc1 ((eq_J rfl jl_1 q1 (by decide)).mpr hz))
    exact H.trans (rt_i jl_m102 rfl)
-- 193 GlassWires straight (I)I
theorem v193_0 {E : gw_N} {N : NM} {res : Option Value × gw_H} {x1 : Int} (H : ((Q94 N x1) ∧ ((R (G94 N x1)) ∧ (((G94 N x1) = 0 → res = (some (.int (J (-101))), hs E (jm N))) ∧ (¬ (G94 N x1) = 0 → (∃ (r1 : Int), Rn 135 [.ref 53, .int (J x1)] (hs E (jm N)) (some (.int (J r1))) (hs E (jm N)) ∧ res = (some (.int (J r1)), hs E (jm N)))))))) : Ev 4 193 0 [some (.ref 8), some (.int (J x1))] [] (hs E (jm N)) res := by
  refine w193_0 ?_
  obtain ⟨q1, H⟩ := H
  obtain ⟨q2, H⟩ := H
  refine ⟨fun hc => ?_, fun hc => ?_⟩
  · replace H := H.1 ((eq_J ((congr (congrArg F94 rfl) rfl).trans (t94 q1)) jl_0 q2 (by decide)).mp hc)
    exact H.trans (rt_i jl_m101 rfl)
  · replace H := H.2 (fun hz => hc ((eq_J ((congr (congrArg F94 rfl) rfl).trans (t94 q1)) jl_0 q2 (by decide)).mpr hz))
    obtain ⟨r1, q3, H⟩ := H
    refine ⟨J r1, Rn_to (clx (cai rfl rfl)) rfl rfl q3, ?_⟩
    exact H.trans (rt_i rfl rfl)
-- 218 GlassWiresModel good (II)I
theorem v218_0 {E : gw_N} {N : NM} {res : Option Value × gw_H} {x1 : Int} {x2 : Int} (H : ((Q214 N x1 x2) ∧ ((R (G214 N x1 x2)) ∧ (((G214 N x1 x2) = 0 → res = (some (.int (J (-101))), hs E (jm N))) ∧ (¬ (G214 N x1 x2) = 0 → (∃ (r1 : Int), Rn 217 [.ref 59, .int (J x1), .int (J x2)] (hs E (jm N)) (some (.int (J r1))) (hs E (jm N)) ∧ res = (some (.int (J r1)), hs E (jm N)))))))) : Ev 4 218 0 [some (.ref 59), some (.int (J x1)), some (.int (J x2))] [] (hs E (jm N)) res := by
  refine w218_0 ?_
  obtain ⟨q1, H⟩ := H
  obtain ⟨q2, H⟩ := H
  refine ⟨fun hc => ?_, fun hc => ?_⟩
  · replace H := H.1 ((eq_J ((congr (congr (congrArg F214 rfl) rfl) rfl).trans (t214 q1)) jl_0 q2 (by decide)).mp hc)
    exact H.trans (rt_i jl_m101 rfl)
  · replace H := H.2 (fun hz => hc ((eq_J ((congr (congr (congrArg F214 rfl) rfl) rfl).trans (t214 q1)) jl_0 q2 (by decide)).mpr hz))
    obtain ⟨r1, q3, H⟩ := H
    refine ⟨J r1, Rn_to (clx (cai rfl (cai rfl rfl))) rfl rfl q3, ?_⟩
    exact H.trans (rt_i rfl rfl)
-- 219 GlassWiresModel wire (II)I
theorem v219_0 {E : gw_N} {N : NM} {res : Option Value × gw_H} {x1 : Int} {x2 : Int} (H : ((Q214 N x1 x2) ∧ ((R (G214 N x1 x2)) ∧ (((G214 N x1 x2) = 0 → res = (some (.int (J (-101))), hs E (jm N))) ∧ (¬ (G214 N x1 x2) = 0 → ((R ((N 59) 3)) ∧ ((((N 59) 3) = 0 → res = (some (.int (J (-103))), hs E (jm N))) ∧ (¬ ((N 59) 3) = 0 → (∃ (r1 : Int), Rn 217 [.ref 59, .int (J x1), .int (J x2)] (hs E (jm N)) (some (.int (J r1))) (hs E (jm N)) ∧ ((R r1) ∧ ((((N 59) 3) ≤ r1 → ((R ((N 59) 4)) ∧ ((((N 59) 4) = 30 → res = (some (.int (J (-104))), hs E (jm N))) ∧ (¬ ((N 59) 4) = 30 → ((0 ≤ (25 * ((N 59) 4)) ∧ (25 * ((N 59) 4)) < 750) ∧ Ev 4 219 72 [some (.ref 59), none, none, some (.int (J (25 * ((N 59) 4)))), some (.int (J 0))] [] (hs E (jm (upZ (upZ N 61 (updZ (N 61) (25 * ((N 59) 4)) x1)) 62 (updZ (N 62) (25 * ((N 59) 4)) x2)))) res))))) ∧ (¬ ((N 59) 3) ≤ r1 → res = (some (.int (J (-103))), hs E (jm N)))))))))))))) : Ev 4 219 0 [some (.ref 59), some (.int (J x1)), some (.int (J x2)), none, none] [] (hs E (jm N)) res := by
  refine w219_0 ?_
  obtain ⟨q1, H⟩ := H
  obtain ⟨q2, H⟩ := H
  refine ⟨fun hc => ?_, fun hc => ?_⟩
  · replace H := H.1 ((eq_J ((congr (congr (congrArg F214 rfl) rfl) rfl).trans (t214 q1)) jl_0 q2 (by decide)).mp hc)
    exact H.trans (rt_i jl_m101 rfl)
  · replace H := H.2 (fun hz => hc ((eq_J ((congr (congr (congrArg F214 rfl) rfl) rfl).trans (t214 q1)) jl_0 q2 (by decide)).mpr hz))
    obtain ⟨q3, H⟩ := H
    refine ⟨fun hc => ?_, fun hc => ?_⟩
    · replace H := H.1 ((eq_J (fld_J (jf_base _ _)) jl_0 q3 (by decide)).mp hc)
      exact H.trans (rt_i jl_m103 rfl)
    · replace H := H.2 (fun hz => hc ((eq_J (fld_J (jf_base _ _)) jl_0 q3 (by decide)).mpr hz))
      obtain ⟨r1, q7, H⟩ := H
      refine ⟨J r1, Rn_to (clx (cai rfl (cai rfl rfl))) rfl rfl q7, ?_⟩
      obtain ⟨q4, H⟩ := H
      refine ⟨fun hc => ?_, fun hc => ?_⟩
      · replace H := H.1 ((le_J (fld_J (jf_base _ _)) rfl q3 q4).mp hc)
        obtain ⟨q5, H⟩ := H
        refine ⟨fun hc => ?_, fun hc => ?_⟩
        · replace H := H.1 ((eq_J (fld_J (jf_base _ _)) jl_30 q5 (by decide)).mp hc)
          exact H.trans (rt_i jl_m104 rfl)
        · replace H := H.2 (fun hz => hc ((eq_J (fld_J (jf_base _ _)) jl_30 q5 (by decide)).mpr hz))
          obtain ⟨q6, H⟩ := H
          refine ⟨inb_J (mul_J jl_25 (fld_J (jf_base _ _))) q6 (by decide), ?_⟩
          refine ⟨inb_J (mul_J jl_25 (fld_J (jf_base _ _))) q6 (by decide), ?_⟩
          exact Ev_to (clx (clx (clx (cli (mul_J jl_25 (fld_J (jf_base _ _))) (cli jl_0 rfl))))) rfl (jm_up (jm_up rfl (jf_upd (jf_base _ _) (mul_J jl_25 (fld_J (jf_base _ _))) q6 (by decide) rfl)) (jf_upd (jf_base _ _) (mul_J jl_25 (fld_J (jf_base _ _))) q6 (by decide) rfl)) H
      · replace H := H.2 (fun hz => hc ((le_J (fld_J (jf_base _ _)) rfl q3 q4).mpr hz))
        exact H.trans (rt_i jl_m103 rfl)
theorem v219_72 {E : gw_N} {N : NM} {res : Option Value × gw_H} {x3 : Int} {x4 : Int} (H : ((R ((N 59) 3)) ∧ ((R x4) ∧ ((((N 59) 3) ≤ x4 → ((0 ≤ ((N 59) 4) ∧ ((N 59) 4) < 30) ∧ res = (some (.int (J (((updZ (updZ (N 59) 3 0) 4 (((updZ (N 59) 3 0) 4) + 1)) 4) - 1))), hs E (jm (upZ (upZ (upZ (upZ N 63 (updZ (N 63) ((N 59) 4) ((N 59) 3))) 64 (updZ (N 64) ((N 59) 4) 1)) 65 (updZ (N 65) ((N 59) 4) 0)) 59 (updZ (updZ (N 59) 3 0) 4 (((updZ (N 59) 3 0) 4) + 1))))))) ∧ (¬ ((N 59) 3) ≤ x4 → ((0 ≤ (x3 + x4) ∧ (x3 + x4) < 750) ∧ ((0 ≤ x4 ∧ x4 < 40) ∧ ((Q215 N ((N 60) x4)) ∧ ((0 ≤ ((x3 + x4) + 1) ∧ ((x3 + x4) + 1) < 750) ∧ ((Q216 (upZ N 61 (updZ (N 61) ((x3 + x4) + 1) (((N 61) (x3 + x4)) + (G215 N ((N 60) x4))))) ((N 60) x4)) ∧ Ev 4 219 72 [some (.ref 59), none, none, some (.int (J x3)), some (.int (J (x4 + 1)))] [] (hs E (jm (upZ (upZ N 61 (updZ (N 61) ((x3 + x4) + 1) (((N 61) (x3 + x4)) + (G215 N ((N 60) x4))))) 62 (updZ (N 62) ((x3 + x4) + 1) (((N 62) (x3 + x4)) + (G216 (upZ N 61 (updZ (N 61) ((x3 + x4) + 1) (((N 61) (x3 + x4)) + (G215 N ((N 60) x4))))) ((N 60) x4))))))) res)))))))))) : Ev 4 219 72 [some (.ref 59), none, none, some (.int (J x3)), some (.int (J x4))] [] (hs E (jm N)) res := by
  refine w219_72 ?_
  obtain ⟨q1, q2, H⟩ := H
  refine ⟨fun hc => ?_, fun hc => ?_⟩
  · replace H := H.1 ((le_J (fld_J (jf_base _ _)) rfl q1 q2).mp hc)
    obtain ⟨q3, H⟩ := H
    refine ⟨inb_J (fld_J (jf_base _ _)) q3 (by decide), ?_⟩
    refine ⟨inb_J (fld_J (jf_base _ _)) q3 (by decide), ?_⟩
    refine ⟨inb_J (fld_J (jf_base _ _)) q3 (by decide), ?_⟩
    exact H.trans (rt_i (sub_J (fld_J (jf_updk (jf_updk (jf_base _ _) jl_0) (add_J (fld_J (jf_updk (jf_base _ _) jl_0)) jl_1))) jl_1) (jm_up (jm_up (jm_up (jm_up rfl (jf_upd (jf_base _ _) (fld_J (jf_base _ _)) q3 (by decide) (fld_J (jf_base _ _)))) (jf_upd (jf_base _ _) (fld_J (jf_base _ _)) q3 (by decide) (and1_J jl_1 (by decide : (1 : Int) = 0 ∨ (1 : Int) = 1)))) (jf_upd (jf_base _ _) (fld_J (jf_base _ _)) q3 (by decide) (and1_J jl_0 (by decide : (0 : Int) = 0 ∨ (0 : Int) = 1)))) (jf_updk (jf_updk (jf_base _ _) jl_0) (add_J (fld_J (jf_updk (jf_base _ _) jl_0)) jl_1))))
  · replace H := H.2 (fun hz => hc ((le_J (fld_J (jf_base _ _)) rfl q1 q2).mpr hz))
    obtain ⟨q4, H⟩ := H
    refine ⟨inb_J (add_J rfl rfl) q4 (by decide), ?_⟩
    obtain ⟨q5, H⟩ := H
    refine ⟨inb_J rfl q5 (by decide), ?_⟩
    obtain ⟨q6, H⟩ := H
    obtain ⟨q7, H⟩ := H
    refine ⟨inb_J (add_J (add_J rfl rfl) jl_1) q7 (by decide), ?_⟩
    refine ⟨inb_J (add_J rfl rfl) q4 (by decide), ?_⟩
    refine ⟨inb_J rfl q5 (by decide), ?_⟩
    obtain ⟨q8, H⟩ := H
    refine ⟨inb_J (add_J (add_J rfl rfl) jl_1) q7 (by decide), ?_⟩
    exact Ev_to (clx (clx (clx (cli rfl (cli (add_J rfl jl_1) rfl))))) rfl (jm_up (jm_up rfl (jf_upd (jf_base _ _) (add_J (add_J rfl rfl) jl_1) q7 (by decide) (add_J (rd_J (jf_base _ _) (add_J rfl rfl) q4 (by decide)) ((congr (congrArg F215 rfl) (rd_J (jf_base _ _) rfl q5 (by decide))).trans (t215 q6))))) (jf_upd (jf_base _ _) (add_J (add_J rfl rfl) jl_1) q7 (by decide) (add_J (rd_J (jf_base _ _) (add_J rfl rfl) q4 (by decide)) ((congr (congrArg F216 (jm_up rfl (jf_upd (jf_base _ _) (add_J (add_J rfl rfl) jl_1) q7 (by decide) (add_J (rd_J (jf_base _ _) (add_J rfl rfl) q4 (by decide)) ((congr (congrArg F215 rfl) (rd_J (jf_base _ _) rfl q5 (by decide))).trans (t215 q6)))))) (rd_J (jf_base _ _) rfl q5 (by decide))).trans (t216 q8))))) H
-- 231 GlassWiresModel about (II)I
theorem v231_0 {E : gw_N} {N : NM} {res : Option Value × gw_H} {x1 : Int} {x2 : Int} (H : ((Q220 N x1) ∧ ((R (G220 N x1)) ∧ (((G220 N x1) = 0 → res = (some (.int (J (-101))), hs E (jm N))) ∧ (¬ (G220 N x1) = 0 → ((R x2) ∧ ((x2 = 0 → ((0 ≤ x1 ∧ x1 < 30) ∧ res = (some (.int (J ((N 63) x1))), hs E (jm N)))) ∧ (x2 = 1 → (∃ (r1 : Int), Rn 226 [.ref 59, .int (J x1)] (hs E (jm N)) (some (.int (J r1))) (hs E (jm N)) ∧ res = (some (.int (J r1)), hs E (jm N)))) ∧ (x2 = 2 → (∃ (r2 : Int), Rn 227 [.ref 59, .int (J x1)] (hs E (jm N)) (some (.int (J r2))) (hs E (jm N)) ∧ ((R r2) ∧ ((r2 = 0 → res = (some (.int (J 0)), hs E (jm N))) ∧ (¬ r2 = 0 → res = (some (.int (J 1)), hs E (jm N))))))) ∧ (x2 = 3 → (∃ (r3 : Int), Rn 225 [.ref 59, .int (J x1)] (hs E (jm N)) (some (.int (J r3))) (hs E (jm N)) ∧ res = (some (.int (J r3)), hs E (jm N)))) ∧ (x2 = 4 → (∃ (N4 : NM), Rn 230 [.ref 59] (hs E (jm N)) none (hs E (jm N4)) ∧ ((0 ≤ x1 ∧ x1 < 30) ∧ ((R ((N4 64) x1)) ∧ ((((N4 64) x1) = 0 → res = (some (.int (J 0)), hs E (jm N4))) ∧ (¬ ((N4 64) x1) = 0 → ((R ((N4 66) x1)) ∧ ((((N4 66) x1) = 0 → res = (some (.int (J 1)), hs E (jm N4))) ∧ (¬ ((N4 66) x1) = 0 → res = (some (.int (J 0)), hs E (jm N4))))))))))) ∧ (¬ x2 = 0 → ¬ x2 = 1 → ¬ x2 = 2 → ¬ x2 = 3 → ¬ x2 = 4 → res = (some (.int (J (-102))), hs E (jm N)))))))))) : Ev 4 231 0 [some (.ref 59), some (.int (J x1)), some (.int (J x2))] [] (hs E (jm N)) res := by
  refine w231_0 ?_
  obtain ⟨q1, H⟩ := H
  obtain ⟨q2, H⟩ := H
  refine ⟨fun hc => ?_, fun hc => ?_⟩
  · replace H := H.1 ((eq_J ((congr (congrArg F220 rfl) rfl).trans (t220 q1)) jl_0 q2 (by decide)).mp hc)
    exact H.trans (rt_i jl_m101 rfl)
  · replace H := H.2 (fun hz => hc ((eq_J ((congr (congrArg F220 rfl) rfl).trans (t220 q1)) jl_0 q2 (by decide)).mpr hz))
    obtain ⟨q3, H⟩ := H
    refine ⟨fun hc => ?_, fun hc => ?_, fun hc => ?_, fun hc => ?_, fun hc => ?_, fun hc0 hc1 hc2 hc3 hc4 => ?_⟩
    · replace H := (H.1) ((eq_J rfl jl_0 q3 (by decide)).mp hc)
      obtain ⟨q4, H⟩ := H
      refine ⟨inb_J rfl q4 (by decide), ?_⟩
      exact H.trans (rt_i (rd_J (jf_base _ _) rfl q4 (by decide)) rfl)
    · replace H := (H.2.1) ((eq_J rfl jl_1 q3 (by decide)).mp hc)
      obtain ⟨r1, q5, H⟩ := H
      refine ⟨J r1, Rn_to (clx (cai rfl rfl)) rfl rfl q5, ?_⟩
      exact H.trans (rt_i rfl rfl)
    · replace H := (H.2.2.1) ((eq_J rfl jl_2 q3 (by decide)).mp hc)
      obtain ⟨r2, q7, H⟩ := H
      refine ⟨J r2, Rn_to (clx (cai rfl rfl)) rfl rfl q7, ?_⟩
      obtain ⟨q6, H⟩ := H
      refine ⟨fun hc => ?_, fun hc => ?_⟩
      · replace H := H.1 ((eq_J rfl jl_0 q6 (by decide)).mp hc)
        exact H.trans (rt_i jl_0 rfl)
      · replace H := H.2 (fun hz => hc ((eq_J rfl jl_0 q6 (by decide)).mpr hz))
        exact H.trans (rt_i jl_1 rfl)
    · replace H := (H.2.2.2.1) ((eq_J rfl jl_3 q3 (by decide)).mp hc)
      obtain ⟨r3, q8, H⟩ := H
      refine ⟨J r3, Rn_to (clx (cai rfl rfl)) rfl rfl q8, ?_⟩
      exact H.trans (rt_i rfl rfl)
    · replace H := (H.2.2.2.2.1) ((eq_J rfl jl_4 q3 (by decide)).mp hc)
      obtain ⟨N4, q12, H⟩ := H
      refine ⟨jm N4, Rn_to (clx rfl) rfl rfl q12, ?_⟩
      obtain ⟨q9, H⟩ := H
      refine ⟨inb_J rfl q9 (by decide), ?_⟩
      obtain ⟨q10, H⟩ := H
      refine ⟨fun hc => ?_, fun hc => ?_⟩
      · replace H := H.1 ((eq_J (rd_J (jf_base _ _) rfl q9 (by decide)) jl_0 q10 (by decide)).mp hc)
        exact H.trans (rt_i jl_0 rfl)
      · replace H := H.2 (fun hz => hc ((eq_J (rd_J (jf_base _ _) rfl q9 (by decide)) jl_0 q10 (by decide)).mpr hz))
        refine ⟨inb_J rfl q9 (by decide), ?_⟩
        obtain ⟨q11, H⟩ := H
        refine ⟨fun hc => ?_, fun hc => ?_⟩
        · replace H := H.1 ((eq_J (rd_J (jf_base _ _) rfl q9 (by decide)) jl_0 q11 (by decide)).mp hc)
          exact H.trans (rt_i jl_1 rfl)
        · replace H := H.2 (fun hz => hc ((eq_J (rd_J (jf_base _ _) rfl q9 (by decide)) jl_0 q11 (by decide)).mpr hz))
          exact H.trans (rt_i jl_0 rfl)
    · replace H := (H.2.2.2.2.2) (fun hz => hc0 ((eq_J rfl jl_0 q3 (by decide)).mpr hz)) (fun hz => hc1 ((eq_J rfl jl_1 q3 (by decide)).mpr hz)) (fun hz => hc2 ((eq_J rfl jl_2 q3 (by decide)).mpr hz)) (fun hz => hc3 ((eq_J rfl jl_3 q3 (by decide)).mpr hz)) (fun hz => hc4 ((eq_J rfl jl_4 q3 (by decide)).mpr hz))
      exact H.trans (rt_i jl_m102 rfl)
-- 236 GlassWiresModel covers (III)I
theorem v236_0 {E : gw_N} {N : NM} {res : Option Value × gw_H} {x1 : Int} {x2 : Int} {x3 : Int} (H : ((Q234 N x1 x2 x3) ∧ ((R (G234 N x1 x2 x3)) ∧ (((G234 N x1 x2 x3) = 0 → res = (some (.int (J (-101))), hs E (jm N))) ∧ (¬ (G234 N x1 x2 x3) = 0 → (∃ (r1 : Int), Rn 233 [.ref 59, .int (J (G235 N x1 x2 x3))] (hs E (jm N)) (some (.int (J r1))) (hs E (jm N)) ∧ res = (some (.int (J r1)), hs E (jm N)))))))) : Ev 4 236 0 [some (.ref 59), some (.int (J x1)), some (.int (J x2)), some (.int (J x3))] [] (hs E (jm N)) res := by
  refine w236_0 ?_
  obtain ⟨q1, H⟩ := H
  obtain ⟨q2, H⟩ := H
  refine ⟨fun hc => ?_, fun hc => ?_⟩
  · replace H := H.1 ((eq_J ((congr (congr (congr (congrArg F234 rfl) rfl) rfl) rfl).trans (t234 q1)) jl_0 q2 (by decide)).mp hc)
    exact H.trans (rt_i jl_m101 rfl)
  · replace H := H.2 (fun hz => hc ((eq_J ((congr (congr (congr (congrArg F234 rfl) rfl) rfl) rfl).trans (t234 q1)) jl_0 q2 (by decide)).mpr hz))
    obtain ⟨r1, q3, H⟩ := H
    refine ⟨J r1, Rn_to (clx (cai ((congr (congr (congr (congrArg F235 rfl) rfl) rfl) rfl).trans (t235)) rfl)) rfl rfl q3, ?_⟩
    exact H.trans (rt_i rfl rfl)
-- 239 GlassWiresModel meet (II)I
theorem v239_0 {E : gw_N} {N : NM} {res : Option Value × gw_H} {x1 : Int} {x2 : Int} (H : ((Q238 N x1 x2 0) ∧ ((R (G238 N x1 x2 0)) ∧ (((G238 N x1 x2 0) ≤ 0 → ((Q238 N (x1 - 1) x2 0) ∧ ((R (G238 N (x1 - 1) x2 0)) ∧ (((G238 N (x1 - 1) x2 0) ≤ 0 → ((Q238 N x1 x2 1) ∧ ((R (G238 N x1 x2 1)) ∧ (((G238 N x1 x2 1) ≤ 0 → ((Q238 N x1 (x2 - 1) 1) ∧ ((R (G238 N x1 (x2 - 1) 1)) ∧ (((G238 N x1 (x2 - 1) 1) ≤ 0 → res = (some (.int (J (((0 + 0) + 0) + 0))), hs E (jm N))) ∧ (¬ (G238 N x1 (x2 - 1) 1) ≤ 0 → res = (some (.int (J (((0 + 0) + 0) + 1))), hs E (jm N))))))) ∧ (¬ (G238 N x1 x2 1) ≤ 0 → ((Q238 N x1 (x2 - 1) 1) ∧ ((R (G238 N x1 (x2 - 1) 1)) ∧ (((G238 N x1 (x2 - 1) 1) ≤ 0 → res = (some (.int (J (((0 + 0) + 1) + 0))), hs E (jm N))) ∧ (¬ (G238 N x1 (x2 - 1) 1) ≤ 0 → res = (some (.int (J (((0 + 0) + 1) + 1))), hs E (jm N))))))))))) ∧ (¬ (G238 N (x1 - 1) x2 0) ≤ 0 → ((Q238 N x1 x2 1) ∧ ((R (G238 N x1 x2 1)) ∧ (((G238 N x1 x2 1) ≤ 0 → ((Q238 N x1 (x2 - 1) 1) ∧ ((R (G238 N x1 (x2 - 1) 1)) ∧ (((G238 N x1 (x2 - 1) 1) ≤ 0 → res = (some (.int (J (((0 + 1) + 0) + 0))), hs E (jm N))) ∧ (¬ (G238 N x1 (x2 - 1) 1) ≤ 0 → res = (some (.int (J (((0 + 1) + 0) + 1))), hs E (jm N))))))) ∧ (¬ (G238 N x1 x2 1) ≤ 0 → ((Q238 N x1 (x2 - 1) 1) ∧ ((R (G238 N x1 (x2 - 1) 1)) ∧ (((G238 N x1 (x2 - 1) 1) ≤ 0 → res = (some (.int (J (((0 + 1) + 1) + 0))), hs E (jm N))) ∧ (¬ (G238 N x1 (x2 - 1) 1) ≤ 0 → res = (some (.int (J (((0 + 1) + 1) + 1))), hs E (jm N))))))))))))))) ∧ (¬ (G238 N x1 x2 0) ≤ 0 → ((Q238 N (x1 - 1) x2 0) ∧ ((R (G238 N (x1 - 1) x2 0)) ∧ (((G238 N (x1 - 1) x2 0) ≤ 0 → ((Q238 N x1 x2 1) ∧ ((R (G238 N x1 x2 1)) ∧ (((G238 N x1 x2 1) ≤ 0 → ((Q238 N x1 (x2 - 1) 1) ∧ ((R (G238 N x1 (x2 - 1) 1)) ∧ (((G238 N x1 (x2 - 1) 1) ≤ 0 → res = (some (.int (J (((1 + 0) + 0) + 0))), hs E (jm N))) ∧ (¬ (G238 N x1 (x2 - 1) 1) ≤ 0 → res = (some (.int (J (((1 + 0) + 0) + 1))), hs E (jm N))))))) ∧ (¬ (G238 N x1 x2 1) ≤ 0 → ((Q238 N x1 (x2 - 1) 1) ∧ ((R (G238 N x1 (x2 - 1) 1)) ∧ (((G238 N x1 (x2 - 1) 1) ≤ 0 → res = (some (.int (J (((1 + 0) + 1) + 0))), hs E (jm N))) ∧ (¬ (G238 N x1 (x2 - 1) 1) ≤ 0 → res = (some (.int (J (((1 + 0) + 1) + 1))), hs E (jm N))))))))))) ∧ (¬ (G238 N (x1 - 1) x2 0) ≤ 0 → ((Q238 N x1 x2 1) ∧ ((R (G238 N x1 x2 1)) ∧ (((G238 N x1 x2 1) ≤ 0 → ((Q238 N x1 (x2 - 1) 1) ∧ ((R (G238 N x1 (x2 - 1) 1)) ∧ (((G238 N x1 (x2 - 1) 1) ≤ 0 → res = (some (.int (J (((1 + 1) + 0) + 0))), hs E (jm N))) ∧ (¬ (G238 N x1 (x2 - 1) 1) ≤ 0 → res = (some (.int (J (((1 + 1) + 0) + 1))), hs E (jm N))))))) ∧ (¬ (G238 N x1 x2 1) ≤ 0 → ((Q238 N x1 (x2 - 1) 1) ∧ ((R (G238 N x1 (x2 - 1) 1)) ∧ (((G238 N x1 (x2 - 1) 1) ≤ 0 → res = (some (.int (J (((1 + 1) + 1) + 0))), hs E (jm N))) ∧ (¬ (G238 N x1 (x2 - 1) 1) ≤ 0 → res = (some (.int (J (((1 + 1) + 1) + 1))), hs E (jm N))))))))))))))))))) : Ev 4 239 0 [some (.ref 59), some (.int (J x1)), some (.int (J x2)), none] [] (hs E (jm N)) res := by
  refine w239_0 ?_
  obtain ⟨q1, H⟩ := H
  refine ⟨Eq.mpr (congr (congr (congr (congrArg P238 rfl) rfl) rfl) jl_0) (p238 q1), ?_⟩
  obtain ⟨q2, H⟩ := H
  refine ⟨fun hc => ?_, fun hc => ?_⟩
  · replace H := H.1 ((le_J ((congr (congr (congr (congrArg F238 rfl) rfl) rfl) jl_0).trans (t238 q1)) jl_0 q2 (by decide)).mp hc)
    obtain ⟨q3, H⟩ := H
    refine ⟨Eq.mpr (congr (congr (congr (congrArg P238 rfl) (sub_J rfl jl_1)) rfl) jl_0) (p238 q3), ?_⟩
    obtain ⟨q4, H⟩ := H
    refine ⟨fun hc => ?_, fun hc => ?_⟩
    · replace H := H.1 ((le_J ((congr (congr (congr (congrArg F238 rfl) (sub_J rfl jl_1)) rfl) jl_0).trans (t238 q3)) jl_0 q4 (by decide)).mp hc)
      obtain ⟨q5, H⟩ := H
      refine ⟨Eq.mpr (congr (congr (congr (congrArg P238 rfl) rfl) rfl) jl_1) (p238 q5), ?_⟩
      obtain ⟨q6, H⟩ := H
      refine ⟨fun hc => ?_, fun hc => ?_⟩
      · replace H := H.1 ((le_J ((congr (congr (congr (congrArg F238 rfl) rfl) rfl) jl_1).trans (t238 q5)) jl_0 q6 (by decide)).mp hc)
        obtain ⟨q7, H⟩ := H
        refine ⟨Eq.mpr (congr (congr (congr (congrArg P238 rfl) rfl) (sub_J rfl jl_1)) jl_1) (p238 q7), ?_⟩
        obtain ⟨q8, H⟩ := H
        refine ⟨fun hc => ?_, fun hc => ?_⟩
        · replace H := H.1 ((le_J ((congr (congr (congr (congrArg F238 rfl) rfl) (sub_J rfl jl_1)) jl_1).trans (t238 q7)) jl_0 q8 (by decide)).mp hc)
          exact H.trans (rt_i (add_J (add_J (add_J jl_0 jl_0) jl_0) jl_0) rfl)
        · replace H := H.2 (fun hz => hc ((le_J ((congr (congr (congr (congrArg F238 rfl) rfl) (sub_J rfl jl_1)) jl_1).trans (t238 q7)) jl_0 q8 (by decide)).mpr hz))
          exact H.trans (rt_i (add_J (add_J (add_J jl_0 jl_0) jl_0) jl_1) rfl)
      · replace H := H.2 (fun hz => hc ((le_J ((congr (congr (congr (congrArg F238 rfl) rfl) rfl) jl_1).trans (t238 q5)) jl_0 q6 (by decide)).mpr hz))
        obtain ⟨q9, H⟩ := H
        refine ⟨Eq.mpr (congr (congr (congr (congrArg P238 rfl) rfl) (sub_J rfl jl_1)) jl_1) (p238 q9), ?_⟩
        obtain ⟨q10, H⟩ := H
        refine ⟨fun hc => ?_, fun hc => ?_⟩
        · replace H := H.1 ((le_J ((congr (congr (congr (congrArg F238 rfl) rfl) (sub_J rfl jl_1)) jl_1).trans (t238 q9)) jl_0 q10 (by decide)).mp hc)
          exact H.trans (rt_i (add_J (add_J (add_J jl_0 jl_0) jl_1) jl_0) rfl)
        · replace H := H.2 (fun hz => hc ((le_J ((congr (congr (congr (congrArg F238 rfl) rfl) (sub_J rfl jl_1)) jl_1).trans (t238 q9)) jl_0 q10 (by decide)).mpr hz))
          exact H.trans (rt_i (add_J (add_J (add_J jl_0 jl_0) jl_1) jl_1) rfl)
    · replace H := H.2 (fun hz => hc ((le_J ((congr (congr (congr (congrArg F238 rfl) (sub_J rfl jl_1)) rfl) jl_0).trans (t238 q3)) jl_0 q4 (by decide)).mpr hz))
      obtain ⟨q11, H⟩ := H
      refine ⟨Eq.mpr (congr (congr (congr (congrArg P238 rfl) rfl) rfl) jl_1) (p238 q11), ?_⟩
      obtain ⟨q12, H⟩ := H
      refine ⟨fun hc => ?_, fun hc => ?_⟩
      · replace H := H.1 ((le_J ((congr (congr (congr (congrArg F238 rfl) rfl) rfl) jl_1).trans (t238 q11)) jl_0 q12 (by decide)).mp hc)
        obtain ⟨q13, H⟩ := H
        refine ⟨Eq.mpr (congr (congr (congr (congrArg P238 rfl) rfl) (sub_J rfl jl_1)) jl_1) (p238 q13), ?_⟩
        obtain ⟨q14, H⟩ := H
        refine ⟨fun hc => ?_, fun hc => ?_⟩
        · replace H := H.1 ((le_J ((congr (congr (congr (congrArg F238 rfl) rfl) (sub_J rfl jl_1)) jl_1).trans (t238 q13)) jl_0 q14 (by decide)).mp hc)
          exact H.trans (rt_i (add_J (add_J (add_J jl_0 jl_1) jl_0) jl_0) rfl)
        · replace H := H.2 (fun hz => hc ((le_J ((congr (congr (congr (congrArg F238 rfl) rfl) (sub_J rfl jl_1)) jl_1).trans (t238 q13)) jl_0 q14 (by decide)).mpr hz))
          exact H.trans (rt_i (add_J (add_J (add_J jl_0 jl_1) jl_0) jl_1) rfl)
      · replace H := H.2 (fun hz => hc ((le_J ((congr (congr (congr (congrArg F238 rfl) rfl) rfl) jl_1).trans (t238 q11)) jl_0 q12 (by decide)).mpr hz))
        obtain ⟨q15, H⟩ := H
        refine ⟨Eq.mpr (congr (congr (congr (congrArg P238 rfl) rfl) (sub_J rfl jl_1)) jl_1) (p238 q15), ?_⟩
        obtain ⟨q16, H⟩ := H
        refine ⟨fun hc => ?_, fun hc => ?_⟩
        · replace H := H.1 ((le_J ((congr (congr (congr (congrArg F238 rfl) rfl) (sub_J rfl jl_1)) jl_1).trans (t238 q15)) jl_0 q16 (by decide)).mp hc)
          exact H.trans (rt_i (add_J (add_J (add_J jl_0 jl_1) jl_1) jl_0) rfl)
        · replace H := H.2 (fun hz => hc ((le_J ((congr (congr (congr (congrArg F238 rfl) rfl) (sub_J rfl jl_1)) jl_1).trans (t238 q15)) jl_0 q16 (by decide)).mpr hz))
          exact H.trans (rt_i (add_J (add_J (add_J jl_0 jl_1) jl_1) jl_1) rfl)
  · replace H := H.2 (fun hz => hc ((le_J ((congr (congr (congr (congrArg F238 rfl) rfl) rfl) jl_0).trans (t238 q1)) jl_0 q2 (by decide)).mpr hz))
    obtain ⟨q17, H⟩ := H
    refine ⟨Eq.mpr (congr (congr (congr (congrArg P238 rfl) (sub_J rfl jl_1)) rfl) jl_0) (p238 q17), ?_⟩
    obtain ⟨q18, H⟩ := H
    refine ⟨fun hc => ?_, fun hc => ?_⟩
    · replace H := H.1 ((le_J ((congr (congr (congr (congrArg F238 rfl) (sub_J rfl jl_1)) rfl) jl_0).trans (t238 q17)) jl_0 q18 (by decide)).mp hc)
      obtain ⟨q19, H⟩ := H
      refine ⟨Eq.mpr (congr (congr (congr (congrArg P238 rfl) rfl) rfl) jl_1) (p238 q19), ?_⟩
      obtain ⟨q20, H⟩ := H
      refine ⟨fun hc => ?_, fun hc => ?_⟩
      · replace H := H.1 ((le_J ((congr (congr (congr (congrArg F238 rfl) rfl) rfl) jl_1).trans (t238 q19)) jl_0 q20 (by decide)).mp hc)
        obtain ⟨q21, H⟩ := H
        refine ⟨Eq.mpr (congr (congr (congr (congrArg P238 rfl) rfl) (sub_J rfl jl_1)) jl_1) (p238 q21), ?_⟩
        obtain ⟨q22, H⟩ := H
        refine ⟨fun hc => ?_, fun hc => ?_⟩
        · replace H := H.1 ((le_J ((congr (congr (congr (congrArg F238 rfl) rfl) (sub_J rfl jl_1)) jl_1).trans (t238 q21)) jl_0 q22 (by decide)).mp hc)
          exact H.trans (rt_i (add_J (add_J (add_J jl_1 jl_0) jl_0) jl_0) rfl)
        · replace H := H.2 (fun hz => hc ((le_J ((congr (congr (congr (congrArg F238 rfl) rfl) (sub_J rfl jl_1)) jl_1).trans (t238 q21)) jl_0 q22 (by decide)).mpr hz))
          exact H.trans (rt_i (add_J (add_J (add_J jl_1 jl_0) jl_0) jl_1) rfl)
      · replace H := H.2 (fun hz => hc ((le_J ((congr (congr (congr (congrArg F238 rfl) rfl) rfl) jl_1).trans (t238 q19)) jl_0 q20 (by decide)).mpr hz))
        obtain ⟨q23, H⟩ := H
        refine ⟨Eq.mpr (congr (congr (congr (congrArg P238 rfl) rfl) (sub_J rfl jl_1)) jl_1) (p238 q23), ?_⟩
        obtain ⟨q24, H⟩ := H
        refine ⟨fun hc => ?_, fun hc => ?_⟩
        · replace H := H.1 ((le_J ((congr (congr (congr (congrArg F238 rfl) rfl) (sub_J rfl jl_1)) jl_1).trans (t238 q23)) jl_0 q24 (by decide)).mp hc)
          exact H.trans (rt_i (add_J (add_J (add_J jl_1 jl_0) jl_1) jl_0) rfl)
        · replace H := H.2 (fun hz => hc ((le_J ((congr (congr (congr (congrArg F238 rfl) rfl) (sub_J rfl jl_1)) jl_1).trans (t238 q23)) jl_0 q24 (by decide)).mpr hz))
          exact H.trans (rt_i (add_J (add_J (add_J jl_1 jl_0) jl_1) jl_1) rfl)
    · replace H := H.2 (fun hz => hc ((le_J ((congr (congr (congr (congrArg F238 rfl) (sub_J rfl jl_1)) rfl) jl_0).trans (t238 q17)) jl_0 q18 (by decide)).mpr hz))
      obtain ⟨q25, H⟩ := H
      refine ⟨Eq.mpr (congr (congr (congr (congrArg P238 rfl) rfl) rfl) jl_1) (p238 q25), ?_⟩
      obtain ⟨q26, H⟩ := H
      refine ⟨fun hc => ?_, fun hc => ?_⟩
      · replace H := H.1 ((le_J ((congr (congr (congr (congrArg F238 rfl) rfl) rfl) jl_1).trans (t238 q25)) jl_0 q26 (by decide)).mp hc)
        obtain ⟨q27, H⟩ := H
        refine ⟨Eq.mpr (congr (congr (congr (congrArg P238 rfl) rfl) (sub_J rfl jl_1)) jl_1) (p238 q27), ?_⟩
        obtain ⟨q28, H⟩ := H
        refine ⟨fun hc => ?_, fun hc => ?_⟩
        · replace H := H.1 ((le_J ((congr (congr (congr (congrArg F238 rfl) rfl) (sub_J rfl jl_1)) jl_1).trans (t238 q27)) jl_0 q28 (by decide)).mp hc)
          exact H.trans (rt_i (add_J (add_J (add_J jl_1 jl_1) jl_0) jl_0) rfl)
        · replace H := H.2 (fun hz => hc ((le_J ((congr (congr (congr (congrArg F238 rfl) rfl) (sub_J rfl jl_1)) jl_1).trans (t238 q27)) jl_0 q28 (by decide)).mpr hz))
          exact H.trans (rt_i (add_J (add_J (add_J jl_1 jl_1) jl_0) jl_1) rfl)
      · replace H := H.2 (fun hz => hc ((le_J ((congr (congr (congr (congrArg F238 rfl) rfl) rfl) jl_1).trans (t238 q25)) jl_0 q26 (by decide)).mpr hz))
        obtain ⟨q29, H⟩ := H
        refine ⟨Eq.mpr (congr (congr (congr (congrArg P238 rfl) rfl) (sub_J rfl jl_1)) jl_1) (p238 q29), ?_⟩
        obtain ⟨q30, H⟩ := H
        refine ⟨fun hc => ?_, fun hc => ?_⟩
        · replace H := H.1 ((le_J ((congr (congr (congr (congrArg F238 rfl) rfl) (sub_J rfl jl_1)) jl_1).trans (t238 q29)) jl_0 q30 (by decide)).mp hc)
          exact H.trans (rt_i (add_J (add_J (add_J jl_1 jl_1) jl_1) jl_0) rfl)
        · replace H := H.2 (fun hz => hc ((le_J ((congr (congr (congr (congrArg F238 rfl) rfl) (sub_J rfl jl_1)) jl_1).trans (t238 q29)) jl_0 q30 (by decide)).mpr hz))
          exact H.trans (rt_i (add_J (add_J (add_J jl_1 jl_1) jl_1) jl_1) rfl)
def G239 (N : NM) (x1 : Int) (x2 : Int) : Int := (if (G238 N x1 x2 0) ≤ 0 then (if (G238 N (x1 - 1) x2 0) ≤ 0 then (if (G238 N x1 x2 1) ≤ 0 then (if (G238 N x1 (x2 - 1) 1) ≤ 0 then (((0 + 0) + 0) + 0) else (((0 + 0) + 0) + 1)) else (if (G238 N x1 (x2 - 1) 1) ≤ 0 then (((0 + 0) + 1) + 0) else (((0 + 0) + 1) + 1))) else (if (G238 N x1 x2 1) ≤ 0 then (if (G238 N x1 (x2 - 1) 1) ≤ 0 then (((0 + 1) + 0) + 0) else (((0 + 1) + 0) + 1)) else (if (G238 N x1 (x2 - 1) 1) ≤ 0 then (((0 + 1) + 1) + 0) else (((0 + 1) + 1) + 1)))) else (if (G238 N (x1 - 1) x2 0) ≤ 0 then (if (G238 N x1 x2 1) ≤ 0 then (if (G238 N x1 (x2 - 1) 1) ≤ 0 then (((1 + 0) + 0) + 0) else (((1 + 0) + 0) + 1)) else (if (G238 N x1 (x2 - 1) 1) ≤ 0 then (((1 + 0) + 1) + 0) else (((1 + 0) + 1) + 1))) else (if (G238 N x1 x2 1) ≤ 0 then (if (G238 N x1 (x2 - 1) 1) ≤ 0 then (((1 + 1) + 0) + 0) else (((1 + 1) + 0) + 1)) else (if (G238 N x1 (x2 - 1) 1) ≤ 0 then (((1 + 1) + 1) + 0) else (((1 + 1) + 1) + 1)))))
def Q239 (N : NM) (x1 : Int) (x2 : Int) : Prop := ((Q238 N x1 x2 0) ∧ ((R (G238 N x1 x2 0)) ∧ (((G238 N x1 x2 0) ≤ 0 → ((Q238 N (x1 - 1) x2 0) ∧ ((R (G238 N (x1 - 1) x2 0)) ∧ (((G238 N (x1 - 1) x2 0) ≤ 0 → ((Q238 N x1 x2 1) ∧ ((R (G238 N x1 x2 1)) ∧ (((G238 N x1 x2 1) ≤ 0 → ((Q238 N x1 (x2 - 1) 1) ∧ ((R (G238 N x1 (x2 - 1) 1)) ∧ (((G238 N x1 (x2 - 1) 1) ≤ 0 → True) ∧ (¬ (G238 N x1 (x2 - 1) 1) ≤ 0 → True))))) ∧ (¬ (G238 N x1 x2 1) ≤ 0 → ((Q238 N x1 (x2 - 1) 1) ∧ ((R (G238 N x1 (x2 - 1) 1)) ∧ (((G238 N x1 (x2 - 1) 1) ≤ 0 → True) ∧ (¬ (G238 N x1 (x2 - 1) 1) ≤ 0 → True))))))))) ∧ (¬ (G238 N (x1 - 1) x2 0) ≤ 0 → ((Q238 N x1 x2 1) ∧ ((R (G238 N x1 x2 1)) ∧ (((G238 N x1 x2 1) ≤ 0 → ((Q238 N x1 (x2 - 1) 1) ∧ ((R (G238 N x1 (x2 - 1) 1)) ∧ (((G238 N x1 (x2 - 1) 1) ≤ 0 → True) ∧ (¬ (G238 N x1 (x2 - 1) 1) ≤ 0 → True))))) ∧ (¬ (G238 N x1 x2 1) ≤ 0 → ((Q238 N x1 (x2 - 1) 1) ∧ ((R (G238 N x1 (x2 - 1) 1)) ∧ (((G238 N x1 (x2 - 1) 1) ≤ 0 → True) ∧ (¬ (G238 N x1 (x2 - 1) 1) ≤ 0 → True))))))))))))) ∧ (¬ (G238 N x1 x2 0) ≤ 0 → ((Q238 N (x1 - 1) x2 0) ∧ ((R (G238 N (x1 - 1) x2 0)) ∧ (((G238 N (x1 - 1) x2 0) ≤ 0 → ((Q238 N x1 x2 1) ∧ ((R (G238 N x1 x2 1)) ∧ (((G238 N x1 x2 1) ≤ 0 → ((Q238 N x1 (x2 - 1) 1) ∧ ((R (G238 N x1 (x2 - 1) 1)) ∧ (((G238 N x1 (x2 - 1) 1) ≤ 0 → True) ∧ (¬ (G238 N x1 (x2 - 1) 1) ≤ 0 → True))))) ∧ (¬ (G238 N x1 x2 1) ≤ 0 → ((Q238 N x1 (x2 - 1) 1) ∧ ((R (G238 N x1 (x2 - 1) 1)) ∧ (((G238 N x1 (x2 - 1) 1) ≤ 0 → True) ∧ (¬ (G238 N x1 (x2 - 1) 1) ≤ 0 → True))))))))) ∧ (¬ (G238 N (x1 - 1) x2 0) ≤ 0 → ((Q238 N x1 x2 1) ∧ ((R (G238 N x1 x2 1)) ∧ (((G238 N x1 x2 1) ≤ 0 → ((Q238 N x1 (x2 - 1) 1) ∧ ((R (G238 N x1 (x2 - 1) 1)) ∧ (((G238 N x1 (x2 - 1) 1) ≤ 0 → True) ∧ (¬ (G238 N x1 (x2 - 1) 1) ≤ 0 → True))))) ∧ (¬ (G238 N x1 x2 1) ≤ 0 → ((Q238 N x1 (x2 - 1) 1) ∧ ((R (G238 N x1 (x2 - 1) 1)) ∧ (((G238 N x1 (x2 - 1) 1) ≤ 0 → True) ∧ (¬ (G238 N x1 (x2 - 1) 1) ≤ 0 → True))))))))))))))))
theorem t239 {N : NM} {x1 : Int} {x2 : Int} (H : Q239 N x1 x2) : F239 (jm N) (J x1) (J x2) = J (G239 N x1 x2) := by
  unfold Q239 at H
  unfold F239 G239
  obtain ⟨q1, H⟩ := H
  obtain ⟨q2, H⟩ := H
  refine ite_J (le_J ((congr (congr (congr (congrArg F238 rfl) rfl) rfl) jl_0).trans (t238 q1)) jl_0 q2 (by decide)) (fun hc => ?_) (fun hc => ?_)
  · replace H := H.1 ((le_J ((congr (congr (congr (congrArg F238 rfl) rfl) rfl) jl_0).trans (t238 q1)) jl_0 q2 (by decide)).mp hc)
    obtain ⟨q3, H⟩ := H
    obtain ⟨q4, H⟩ := H
    refine ite_J (le_J ((congr (congr (congr (congrArg F238 rfl) (sub_J rfl jl_1)) rfl) jl_0).trans (t238 q3)) jl_0 q4 (by decide)) (fun hc => ?_) (fun hc => ?_)
    · replace H := H.1 ((le_J ((congr (congr (congr (congrArg F238 rfl) (sub_J rfl jl_1)) rfl) jl_0).trans (t238 q3)) jl_0 q4 (by decide)).mp hc)
      obtain ⟨q5, H⟩ := H
      obtain ⟨q6, H⟩ := H
      refine ite_J (le_J ((congr (congr (congr (congrArg F238 rfl) rfl) rfl) jl_1).trans (t238 q5)) jl_0 q6 (by decide)) (fun hc => ?_) (fun hc => ?_)
      · replace H := H.1 ((le_J ((congr (congr (congr (congrArg F238 rfl) rfl) rfl) jl_1).trans (t238 q5)) jl_0 q6 (by decide)).mp hc)
        obtain ⟨q7, H⟩ := H
        obtain ⟨q8, H⟩ := H
        refine ite_J (le_J ((congr (congr (congr (congrArg F238 rfl) rfl) (sub_J rfl jl_1)) jl_1).trans (t238 q7)) jl_0 q8 (by decide)) (fun hc => ?_) (fun hc => ?_)
        · replace H := H.1 ((le_J ((congr (congr (congr (congrArg F238 rfl) rfl) (sub_J rfl jl_1)) jl_1).trans (t238 q7)) jl_0 q8 (by decide)).mp hc)
          exact (add_J (add_J (add_J jl_0 jl_0) jl_0) jl_0)
        · replace H := H.2 (fun hz => hc ((le_J ((congr (congr (congr (congrArg F238 rfl) rfl) (sub_J rfl jl_1)) jl_1).trans (t238 q7)) jl_0 q8 (by decide)).mpr hz))
          exact (add_J (add_J (add_J jl_0 jl_0) jl_0) jl_1)
      · replace H := H.2 (fun hz => hc ((le_J ((congr (congr (congr (congrArg F238 rfl) rfl) rfl) jl_1).trans (t238 q5)) jl_0 q6 (by decide)).mpr hz))
        obtain ⟨q9, H⟩ := H
        obtain ⟨q10, H⟩ := H
        refine ite_J (le_J ((congr (congr (congr (congrArg F238 rfl) rfl) (sub_J rfl jl_1)) jl_1).trans (t238 q9)) jl_0 q10 (by decide)) (fun hc => ?_) (fun hc => ?_)
        · replace H := H.1 ((le_J ((congr (congr (congr (congrArg F238 rfl) rfl) (sub_J rfl jl_1)) jl_1).trans (t238 q9)) jl_0 q10 (by decide)).mp hc)
          exact (add_J (add_J (add_J jl_0 jl_0) jl_1) jl_0)
        · replace H := H.2 (fun hz => hc ((le_J ((congr (congr (congr (congrArg F238 rfl) rfl) (sub_J rfl jl_1)) jl_1).trans (t238 q9)) jl_0 q10 (by decide)).mpr hz))
          exact (add_J (add_J (add_J jl_0 jl_0) jl_1) jl_1)
    · replace H := H.2 (fun hz => hc ((le_J ((congr (congr (congr (congrArg F238 rfl) (sub_J rfl jl_1)) rfl) jl_0).trans (t238 q3)) jl_0 q4 (by decide)).mpr hz))
      obtain ⟨q11, H⟩ := H
      obtain ⟨q12, H⟩ := H
      refine ite_J (le_J ((congr (congr (congr (congrArg F238 rfl) rfl) rfl) jl_1).trans (t238 q11)) jl_0 q12 (by decide)) (fun hc => ?_) (fun hc => ?_)
      · replace H := H.1 ((le_J ((congr (congr (congr (congrArg F238 rfl) rfl) rfl) jl_1).trans (t238 q11)) jl_0 q12 (by decide)).mp hc)
        obtain ⟨q13, H⟩ := H
        obtain ⟨q14, H⟩ := H
        refine ite_J (le_J ((congr (congr (congr (congrArg F238 rfl) rfl) (sub_J rfl jl_1)) jl_1).trans (t238 q13)) jl_0 q14 (by decide)) (fun hc => ?_) (fun hc => ?_)
        · replace H := H.1 ((le_J ((congr (congr (congr (congrArg F238 rfl) rfl) (sub_J rfl jl_1)) jl_1).trans (t238 q13)) jl_0 q14 (by decide)).mp hc)
          exact (add_J (add_J (add_J jl_0 jl_1) jl_0) jl_0)
        · replace H := H.2 (fun hz => hc ((le_J ((congr (congr (congr (congrArg F238 rfl) rfl) (sub_J rfl jl_1)) jl_1).trans (t238 q13)) jl_0 q14 (by decide)).mpr hz))
          exact (add_J (add_J (add_J jl_0 jl_1) jl_0) jl_1)
      · replace H := H.2 (fun hz => hc ((le_J ((congr (congr (congr (congrArg F238 rfl) rfl) rfl) jl_1).trans (t238 q11)) jl_0 q12 (by decide)).mpr hz))
        obtain ⟨q15, H⟩ := H
        obtain ⟨q16, H⟩ := H
        refine ite_J (le_J ((congr (congr (congr (congrArg F238 rfl) rfl) (sub_J rfl jl_1)) jl_1).trans (t238 q15)) jl_0 q16 (by decide)) (fun hc => ?_) (fun hc => ?_)
        · replace H := H.1 ((le_J ((congr (congr (congr (congrArg F238 rfl) rfl) (sub_J rfl jl_1)) jl_1).trans (t238 q15)) jl_0 q16 (by decide)).mp hc)
          exact (add_J (add_J (add_J jl_0 jl_1) jl_1) jl_0)
        · replace H := H.2 (fun hz => hc ((le_J ((congr (congr (congr (congrArg F238 rfl) rfl) (sub_J rfl jl_1)) jl_1).trans (t238 q15)) jl_0 q16 (by decide)).mpr hz))
          exact (add_J (add_J (add_J jl_0 jl_1) jl_1) jl_1)
  · replace H := H.2 (fun hz => hc ((le_J ((congr (congr (congr (congrArg F238 rfl) rfl) rfl) jl_0).trans (t238 q1)) jl_0 q2 (by decide)).mpr hz))
    obtain ⟨q17, H⟩ := H
    obtain ⟨q18, H⟩ := H
    refine ite_J (le_J ((congr (congr (congr (congrArg F238 rfl) (sub_J rfl jl_1)) rfl) jl_0).trans (t238 q17)) jl_0 q18 (by decide)) (fun hc => ?_) (fun hc => ?_)
    · replace H := H.1 ((le_J ((congr (congr (congr (congrArg F238 rfl) (sub_J rfl jl_1)) rfl) jl_0).trans (t238 q17)) jl_0 q18 (by decide)).mp hc)
      obtain ⟨q19, H⟩ := H
      obtain ⟨q20, H⟩ := H
      refine ite_J (le_J ((congr (congr (congr (congrArg F238 rfl) rfl) rfl) jl_1).trans (t238 q19)) jl_0 q20 (by decide)) (fun hc => ?_) (fun hc => ?_)
      · replace H := H.1 ((le_J ((congr (congr (congr (congrArg F238 rfl) rfl) rfl) jl_1).trans (t238 q19)) jl_0 q20 (by decide)).mp hc)
        obtain ⟨q21, H⟩ := H
        obtain ⟨q22, H⟩ := H
        refine ite_J (le_J ((congr (congr (congr (congrArg F238 rfl) rfl) (sub_J rfl jl_1)) jl_1).trans (t238 q21)) jl_0 q22 (by decide)) (fun hc => ?_) (fun hc => ?_)
        · replace H := H.1 ((le_J ((congr (congr (congr (congrArg F238 rfl) rfl) (sub_J rfl jl_1)) jl_1).trans (t238 q21)) jl_0 q22 (by decide)).mp hc)
          exact (add_J (add_J (add_J jl_1 jl_0) jl_0) jl_0)
        · replace H := H.2 (fun hz => hc ((le_J ((congr (congr (congr (congrArg F238 rfl) rfl) (sub_J rfl jl_1)) jl_1).trans (t238 q21)) jl_0 q22 (by decide)).mpr hz))
          exact (add_J (add_J (add_J jl_1 jl_0) jl_0) jl_1)
      · replace H := H.2 (fun hz => hc ((le_J ((congr (congr (congr (congrArg F238 rfl) rfl) rfl) jl_1).trans (t238 q19)) jl_0 q20 (by decide)).mpr hz))
        obtain ⟨q23, H⟩ := H
        obtain ⟨q24, H⟩ := H
        refine ite_J (le_J ((congr (congr (congr (congrArg F238 rfl) rfl) (sub_J rfl jl_1)) jl_1).trans (t238 q23)) jl_0 q24 (by decide)) (fun hc => ?_) (fun hc => ?_)
        · replace H := H.1 ((le_J ((congr (congr (congr (congrArg F238 rfl) rfl) (sub_J rfl jl_1)) jl_1).trans (t238 q23)) jl_0 q24 (by decide)).mp hc)
          exact (add_J (add_J (add_J jl_1 jl_0) jl_1) jl_0)
        · replace H := H.2 (fun hz => hc ((le_J ((congr (congr (congr (congrArg F238 rfl) rfl) (sub_J rfl jl_1)) jl_1).trans (t238 q23)) jl_0 q24 (by decide)).mpr hz))
          exact (add_J (add_J (add_J jl_1 jl_0) jl_1) jl_1)
    · replace H := H.2 (fun hz => hc ((le_J ((congr (congr (congr (congrArg F238 rfl) (sub_J rfl jl_1)) rfl) jl_0).trans (t238 q17)) jl_0 q18 (by decide)).mpr hz))
      obtain ⟨q25, H⟩ := H
      obtain ⟨q26, H⟩ := H
      refine ite_J (le_J ((congr (congr (congr (congrArg F238 rfl) rfl) rfl) jl_1).trans (t238 q25)) jl_0 q26 (by decide)) (fun hc => ?_) (fun hc => ?_)
      · replace H := H.1 ((le_J ((congr (congr (congr (congrArg F238 rfl) rfl) rfl) jl_1).trans (t238 q25)) jl_0 q26 (by decide)).mp hc)
        obtain ⟨q27, H⟩ := H
        obtain ⟨q28, H⟩ := H
        refine ite_J (le_J ((congr (congr (congr (congrArg F238 rfl) rfl) (sub_J rfl jl_1)) jl_1).trans (t238 q27)) jl_0 q28 (by decide)) (fun hc => ?_) (fun hc => ?_)
        · replace H := H.1 ((le_J ((congr (congr (congr (congrArg F238 rfl) rfl) (sub_J rfl jl_1)) jl_1).trans (t238 q27)) jl_0 q28 (by decide)).mp hc)
          exact (add_J (add_J (add_J jl_1 jl_1) jl_0) jl_0)
        · replace H := H.2 (fun hz => hc ((le_J ((congr (congr (congr (congrArg F238 rfl) rfl) (sub_J rfl jl_1)) jl_1).trans (t238 q27)) jl_0 q28 (by decide)).mpr hz))
          exact (add_J (add_J (add_J jl_1 jl_1) jl_0) jl_1)
      · replace H := H.2 (fun hz => hc ((le_J ((congr (congr (congr (congrArg F238 rfl) rfl) rfl) jl_1).trans (t238 q25)) jl_0 q26 (by decide)).mpr hz))
        obtain ⟨q29, H⟩ := H
        obtain ⟨q30, H⟩ := H
        refine ite_J (le_J ((congr (congr (congr (congrArg F238 rfl) rfl) (sub_J rfl jl_1)) jl_1).trans (t238 q29)) jl_0 q30 (by decide)) (fun hc => ?_) (fun hc => ?_)
        · replace H := H.1 ((le_J ((congr (congr (congr (congrArg F238 rfl) rfl) (sub_J rfl jl_1)) jl_1).trans (t238 q29)) jl_0 q30 (by decide)).mp hc)
          exact (add_J (add_J (add_J jl_1 jl_1) jl_1) jl_0)
        · replace H := H.2 (fun hz => hc ((le_J ((congr (congr (congr (congrArg F238 rfl) rfl) (sub_J rfl jl_1)) jl_1).trans (t238 q29)) jl_0 q30 (by decide)).mpr hz))
          exact (add_J (add_J (add_J jl_1 jl_1) jl_1) jl_1)
theorem p239 {N : NM} {x1 : Int} {x2 : Int} (H : Q239 N x1 x2) : P239 (jm N) (J x1) (J x2) := by
  unfold Q239 at H
  unfold P239
  obtain ⟨q1, H⟩ := H
  refine ⟨Eq.mpr (congr (congr (congr (congrArg P238 rfl) rfl) rfl) jl_0) (p238 q1), ?_⟩
  obtain ⟨q2, H⟩ := H
  refine ⟨fun hc => ?_, fun hc => ?_⟩
  · replace H := H.1 ((le_J ((congr (congr (congr (congrArg F238 rfl) rfl) rfl) jl_0).trans (t238 q1)) jl_0 q2 (by decide)).mp hc)
    obtain ⟨q3, H⟩ := H
    refine ⟨Eq.mpr (congr (congr (congr (congrArg P238 rfl) (sub_J rfl jl_1)) rfl) jl_0) (p238 q3), ?_⟩
    obtain ⟨q4, H⟩ := H
    refine ⟨fun hc => ?_, fun hc => ?_⟩
    · replace H := H.1 ((le_J ((congr (congr (congr (congrArg F238 rfl) (sub_J rfl jl_1)) rfl) jl_0).trans (t238 q3)) jl_0 q4 (by decide)).mp hc)
      obtain ⟨q5, H⟩ := H
      refine ⟨Eq.mpr (congr (congr (congr (congrArg P238 rfl) rfl) rfl) jl_1) (p238 q5), ?_⟩
      obtain ⟨q6, H⟩ := H
      refine ⟨fun hc => ?_, fun hc => ?_⟩
      · replace H := H.1 ((le_J ((congr (congr (congr (congrArg F238 rfl) rfl) rfl) jl_1).trans (t238 q5)) jl_0 q6 (by decide)).mp hc)
        obtain ⟨q7, H⟩ := H
        exact Eq.mpr (congr (congr (congr (congrArg P238 rfl) rfl) (sub_J rfl jl_1)) jl_1) (p238 q7)
      · replace H := H.2 (fun hz => hc ((le_J ((congr (congr (congr (congrArg F238 rfl) rfl) rfl) jl_1).trans (t238 q5)) jl_0 q6 (by decide)).mpr hz))
        obtain ⟨q8, H⟩ := H
        exact Eq.mpr (congr (congr (congr (congrArg P238 rfl) rfl) (sub_J rfl jl_1)) jl_1) (p238 q8)
    · replace H := H.2 (fun hz => hc ((le_J ((congr (congr (congr (congrArg F238 rfl) (sub_J rfl jl_1)) rfl) jl_0).trans (t238 q3)) jl_0 q4 (by decide)).mpr hz))
      obtain ⟨q9, H⟩ := H
      refine ⟨Eq.mpr (congr (congr (congr (congrArg P238 rfl) rfl) rfl) jl_1) (p238 q9), ?_⟩
      obtain ⟨q10, H⟩ := H
      refine ⟨fun hc => ?_, fun hc => ?_⟩
      · replace H := H.1 ((le_J ((congr (congr (congr (congrArg F238 rfl) rfl) rfl) jl_1).trans (t238 q9)) jl_0 q10 (by decide)).mp hc)
        obtain ⟨q11, H⟩ := H
        exact Eq.mpr (congr (congr (congr (congrArg P238 rfl) rfl) (sub_J rfl jl_1)) jl_1) (p238 q11)
      · replace H := H.2 (fun hz => hc ((le_J ((congr (congr (congr (congrArg F238 rfl) rfl) rfl) jl_1).trans (t238 q9)) jl_0 q10 (by decide)).mpr hz))
        obtain ⟨q12, H⟩ := H
        exact Eq.mpr (congr (congr (congr (congrArg P238 rfl) rfl) (sub_J rfl jl_1)) jl_1) (p238 q12)
  · replace H := H.2 (fun hz => hc ((le_J ((congr (congr (congr (congrArg F238 rfl) rfl) rfl) jl_0).trans (t238 q1)) jl_0 q2 (by decide)).mpr hz))
    obtain ⟨q13, H⟩ := H
    refine ⟨Eq.mpr (congr (congr (congr (congrArg P238 rfl) (sub_J rfl jl_1)) rfl) jl_0) (p238 q13), ?_⟩
    obtain ⟨q14, H⟩ := H
    refine ⟨fun hc => ?_, fun hc => ?_⟩
    · replace H := H.1 ((le_J ((congr (congr (congr (congrArg F238 rfl) (sub_J rfl jl_1)) rfl) jl_0).trans (t238 q13)) jl_0 q14 (by decide)).mp hc)
      obtain ⟨q15, H⟩ := H
      refine ⟨Eq.mpr (congr (congr (congr (congrArg P238 rfl) rfl) rfl) jl_1) (p238 q15), ?_⟩
      obtain ⟨q16, H⟩ := H
      refine ⟨fun hc => ?_, fun hc => ?_⟩
      · replace H := H.1 ((le_J ((congr (congr (congr (congrArg F238 rfl) rfl) rfl) jl_1).trans (t238 q15)) jl_0 q16 (by decide)).mp hc)
        obtain ⟨q17, H⟩ := H
        exact Eq.mpr (congr (congr (congr (congrArg P238 rfl) rfl) (sub_J rfl jl_1)) jl_1) (p238 q17)
      · replace H := H.2 (fun hz => hc ((le_J ((congr (congr (congr (congrArg F238 rfl) rfl) rfl) jl_1).trans (t238 q15)) jl_0 q16 (by decide)).mpr hz))
        obtain ⟨q18, H⟩ := H
        exact Eq.mpr (congr (congr (congr (congrArg P238 rfl) rfl) (sub_J rfl jl_1)) jl_1) (p238 q18)
    · replace H := H.2 (fun hz => hc ((le_J ((congr (congr (congr (congrArg F238 rfl) (sub_J rfl jl_1)) rfl) jl_0).trans (t238 q13)) jl_0 q14 (by decide)).mpr hz))
      obtain ⟨q19, H⟩ := H
      refine ⟨Eq.mpr (congr (congr (congr (congrArg P238 rfl) rfl) rfl) jl_1) (p238 q19), ?_⟩
      obtain ⟨q20, H⟩ := H
      refine ⟨fun hc => ?_, fun hc => ?_⟩
      · replace H := H.1 ((le_J ((congr (congr (congr (congrArg F238 rfl) rfl) rfl) jl_1).trans (t238 q19)) jl_0 q20 (by decide)).mp hc)
        obtain ⟨q21, H⟩ := H
        exact Eq.mpr (congr (congr (congr (congrArg P238 rfl) rfl) (sub_J rfl jl_1)) jl_1) (p238 q21)
      · replace H := H.2 (fun hz => hc ((le_J ((congr (congr (congr (congrArg F238 rfl) rfl) rfl) jl_1).trans (t238 q19)) jl_0 q20 (by decide)).mpr hz))
        obtain ⟨q22, H⟩ := H
        exact Eq.mpr (congr (congr (congr (congrArg P238 rfl) rfl) (sub_J rfl jl_1)) jl_1) (p238 q22)
theorem sz239 {E : gw_N} {N : NM} {x1 : Int} {x2 : Int} (H : Q239 N x1 x2) : Rn 239 [.ref 59, .int (J x1), .int (J x2)] (hs E (jm N)) (some (.int (J (G239 N x1 x2)))) (hs E (jm N)) := by
  have h := s239 (E := E) (M := jm N) (x1 := J x1) (x2 := J x2) (p239 H)
  rw [t239 H] at h
  exact h
-- 248 GlassWiresModel isCell (I)Z
theorem v248_0 {E : gw_N} {N : NM} {res : Option Value × gw_H} {x1 : Int} (H : (∃ (N1 : NM), Rn 247 [.ref 59] (hs E (jm N)) none (hs E (jm N1)) ∧ ((R x1) ∧ ((R ((G243 N1) - 1)) ∧ (((if 0 ≤ x1 ∧ x1 ≤ ((G243 N1) - 1) then (1 : Int) else 0) = 0 → res = (some (.int (J 0)), hs E (jm N1))) ∧ (¬ (if 0 ≤ x1 ∧ x1 ≤ ((G243 N1) - 1) then (1 : Int) else 0) = 0 → ((0 ≤ x1 ∧ x1 < 64) ∧ ((R ((N1 69) x1)) ∧ ((((N1 69) x1) = x1 → res = (some (.int (J 1)), hs E (jm N1))) ∧ (¬ ((N1 69) x1) = x1 → res = (some (.int (J 0)), hs E (jm N1)))))))))))) : Ev 4 248 0 [some (.ref 59), some (.int (J x1))] [] (hs E (jm N)) res := by
  refine w248_0 ?_
  obtain ⟨N1, q5, H⟩ := H
  refine ⟨jm N1, Rn_to (clx rfl) rfl rfl q5, ?_⟩
  obtain ⟨q1, q2, H⟩ := H
  refine ⟨fun hc => ?_, fun hc => ?_⟩
  · replace H := H.1 ((eq_J (in_J (congrArg Int32.toInt64 rfl) ll_0 (congrArg Int32.toInt64 (sub_J ((congrArg F243 rfl).trans (t243)) jl_1)) q1 (by decide) q2) jl_0 R_in (by decide)).mp hc)
    exact H.trans (rt_i jl_0 rfl)
  · replace H := H.2 (fun hz => hc ((eq_J (in_J (congrArg Int32.toInt64 rfl) ll_0 (congrArg Int32.toInt64 (sub_J ((congrArg F243 rfl).trans (t243)) jl_1)) q1 (by decide) q2) jl_0 R_in (by decide)).mpr hz))
    obtain ⟨q3, H⟩ := H
    refine ⟨inb_J rfl q3 (by decide), ?_⟩
    obtain ⟨q4, H⟩ := H
    refine ⟨fun hc => ?_, fun hc => ?_⟩
    · replace H := H.1 ((eq_J (rd_J (jf_base _ _) rfl q3 (by decide)) rfl q4 q1).mp hc)
      exact H.trans (rt_i jl_1 rfl)
    · replace H := H.2 (fun hz => hc ((eq_J (rd_J (jf_base _ _) rfl q3 (by decide)) rfl q4 q1).mpr hz))
      exact H.trans (rt_i jl_0 rfl)
-- 252 GlassWiresModel cell (II)I
theorem v252_0 {E : gw_N} {N : NM} {res : Option Value × gw_H} {x1 : Int} {x2 : Int} (H : ((Q244 N x1 x2) ∧ ((R (G244 N x1 x2)) ∧ (((G244 N x1 x2) = 0 → res = (some (.int (J (-101))), hs E (jm N))) ∧ (¬ (G244 N x1 x2) = 0 → (∃ (N1 : NM), Rn 247 [.ref 59] (hs E (jm N)) none (hs E (jm N1)) ∧ ((0 ≤ ((((N1 59) 0) * x2) + x1) ∧ ((((N1 59) 0) * x2) + x1) < 64) ∧ res = (some (.int (J ((N1 69) ((((N1 59) 0) * x2) + x1)))), hs E (jm N1))))))))) : Ev 4 252 0 [some (.ref 59), some (.int (J x1)), some (.int (J x2))] [] (hs E (jm N)) res := by
  refine w252_0 ?_
  obtain ⟨q1, H⟩ := H
  obtain ⟨q2, H⟩ := H
  refine ⟨fun hc => ?_, fun hc => ?_⟩
  · replace H := H.1 ((eq_J ((congr (congr (congrArg F244 rfl) rfl) rfl).trans (t244 q1)) jl_0 q2 (by decide)).mp hc)
    exact H.trans (rt_i jl_m101 rfl)
  · replace H := H.2 (fun hz => hc ((eq_J ((congr (congr (congrArg F244 rfl) rfl) rfl).trans (t244 q1)) jl_0 q2 (by decide)).mpr hz))
    obtain ⟨N1, q4, H⟩ := H
    refine ⟨jm N1, Rn_to (clx rfl) rfl rfl q4, ?_⟩
    obtain ⟨q3, H⟩ := H
    refine ⟨inb_J (add_J (mul_J (fld_J (jf_base _ _)) rfl) rfl) q3 (by decide), ?_⟩
    exact H.trans (rt_i (rd_J (jf_base _ _) (add_J (mul_J (fld_J (jf_base _ _)) rfl) rfl) q3 (by decide)) rfl)
-- 255 GlassWiresModel listCells ()V
theorem v255_0 {E : gw_N} {N : NM} {res : Option Value × gw_H}  (H : (∃ (N1 : NM), Rn 247 [.ref 59] (hs E (jm N)) none (hs E (jm N1)) ∧ Ev 4 255 11 [some (.ref 59), some (.int (J 0))] [] (hs E (jm (upZ N1 59 (updZ (N1 59) 15 0)))) res)) : Ev 4 255 0 [some (.ref 59), none] [] (hs E (jm N)) res := by
  refine w255_0 ?_
  obtain ⟨N1, q1, H⟩ := H
  refine ⟨jm N1, Rn_to (clx rfl) rfl rfl q1, ?_⟩
  exact Ev_to (clx (cli jl_0 rfl)) rfl (jm_up rfl (jf_updk (jf_base _ _) jl_0)) H
theorem v255_11 {E : gw_N} {N : NM} {res : Option Value × gw_H} {x1 : Int} (H : ((R (G243 N)) ∧ ((R x1) ∧ (((G243 N) ≤ x1 → res = (none, hs E (jm N))) ∧ (¬ (G243 N) ≤ x1 → ((0 ≤ x1 ∧ x1 < 64) ∧ ((R ((N 69) x1)) ∧ ((((N 69) x1) = x1 → ((0 ≤ ((N 59) 15) ∧ ((N 59) 15) < 64) ∧ Ev 4 255 11 [some (.ref 59), some (.int (J (x1 + 1)))] [] (hs E (jm (upZ (upZ N 70 (updZ (N 70) ((N 59) 15) x1)) 59 (updZ (N 59) 15 (((N 59) 15) + 1))))) res)) ∧ (¬ ((N 69) x1) = x1 → Ev 4 255 11 [some (.ref 59), some (.int (J (x1 + 1)))] [] (hs E (jm N)) res))))))))) : Ev 4 255 11 [some (.ref 59), some (.int (J x1))] [] (hs E (jm N)) res := by
  refine w255_11 ?_
  obtain ⟨q1, q2, H⟩ := H
  refine ⟨fun hc => ?_, fun hc => ?_⟩
  · replace H := H.1 ((le_J ((congrArg F243 rfl).trans (t243)) rfl q1 q2).mp hc)
    exact H.trans (rt_n rfl)
  · replace H := H.2 (fun hz => hc ((le_J ((congrArg F243 rfl).trans (t243)) rfl q1 q2).mpr hz))
    obtain ⟨q3, H⟩ := H
    refine ⟨inb_J rfl q3 (by decide), ?_⟩
    obtain ⟨q4, H⟩ := H
    refine ⟨fun hc => ?_, fun hc => ?_⟩
    · replace H := H.1 ((eq_J (rd_J (jf_base _ _) rfl q3 (by decide)) rfl q4 q2).mp hc)
      obtain ⟨q5, H⟩ := H
      refine ⟨inb_J (fld_J (jf_base _ _)) q5 (by decide), ?_⟩
      exact Ev_to (clx (cli (add_J rfl jl_1) rfl)) rfl (jm_up (jm_up rfl (jf_upd (jf_base _ _) (fld_J (jf_base _ _)) q5 (by decide) rfl)) (jf_updk (jf_base _ _) (add_J (fld_J (jf_base _ _)) jl_1))) H
    · replace H := H.2 (fun hz => hc ((eq_J (rd_J (jf_base _ _) rfl q3 (by decide)) rfl q4 q2).mpr hz))
      exact Ev_to (clx (cli (add_J rfl jl_1) rfl)) rfl rfl H
-- 271 GlassWiresModel runOver ()V
theorem v271_0 {E : gw_N} {N : NM} {res : Option Value × gw_H}  (H : (∃ (N1 : NM), Rn 247 [.ref 59] (hs E (jm N)) none (hs E (jm N1)) ∧ Ev 4 271 6 [some (.ref 59), some (.int (J 0)), none, none, none] [] (hs E (jm N1)) res)) : Ev 4 271 0 [some (.ref 59), none, none, none, none] [] (hs E (jm N)) res := by
  refine w271_0 ?_
  obtain ⟨N1, q1, H⟩ := H
  refine ⟨jm N1, Rn_to (clx rfl) rfl rfl q1, ?_⟩
  exact Ev_to (clx (cli jl_0 (clx (clx (clx rfl))))) rfl rfl H
theorem v271_6 {E : gw_N} {N : NM} {res : Option Value × gw_H} {x1 : Int} (H : ((R (G243 N)) ∧ ((R x1) ∧ (((G243 N) ≤ x1 → Ev 4 271 40 [some (.ref 59), some (.int (J 0)), none, none, none] [] (hs E (jm N)) res) ∧ (¬ (G243 N) ≤ x1 → (∃ (r1 : Int), Rn 267 [.ref 59, .int (J x1)] (hs E (jm N)) (some (.int (J r1))) (hs E (jm N)) ∧ ((0 ≤ x1 ∧ x1 < 64) ∧ Ev 4 271 6 [some (.ref 59), some (.int (J (x1 + 1))), none, none, none] [] (hs E (jm (upZ (upZ N 81 (updZ (N 81) x1 r1)) 82 (updZ (N 82) x1 0)))) res))))))) : Ev 4 271 6 [some (.ref 59), some (.int (J x1)), none, none, none] [] (hs E (jm N)) res := by
  refine w271_6 ?_
  obtain ⟨q1, q2, H⟩ := H
  refine ⟨fun hc => ?_, fun hc => ?_⟩
  · replace H := H.1 ((le_J ((congrArg F243 rfl).trans (t243)) rfl q1 q2).mp hc)
    exact Ev_to (clx (cli jl_0 (clx (clx (clx rfl))))) rfl rfl H
  · replace H := H.2 (fun hz => hc ((le_J ((congrArg F243 rfl).trans (t243)) rfl q1 q2).mpr hz))
    obtain ⟨r1, q4, H⟩ := H
    refine ⟨J r1, Rn_to (clx (cai rfl rfl)) rfl rfl q4, ?_⟩
    obtain ⟨q3, H⟩ := H
    refine ⟨inb_J rfl q3 (by decide), ?_⟩
    refine ⟨inb_J rfl q3 (by decide), ?_⟩
    exact Ev_to (clx (cli (add_J rfl jl_1) (clx (clx (clx rfl))))) rfl (jm_up (jm_up rfl (jf_upd (jf_base _ _) rfl q3 (by decide) rfl)) (jf_upd (jf_base _ _) rfl q3 (by decide) (and1_J jl_0 (by decide : (0 : Int) = 0 ∨ (0 : Int) = 1)))) H
theorem v271_40 {E : gw_N} {N : NM} {res : Option Value × gw_H} {x1 : Int} (H : ((R (G243 N)) ∧ ((R x1) ∧ (((G243 N) ≤ x1 → Ev 4 271 151 [some (.ref 59), some (.int (J 0)), none, none, none] [] (hs E (jm N)) res) ∧ (¬ (G243 N) ≤ x1 → Ev 4 271 50 [some (.ref 59), some (.int (J x1)), some (.int (J 0)), none, none] [] (hs E (jm N)) res))))) : Ev 4 271 40 [some (.ref 59), some (.int (J x1)), none, none, none] [] (hs E (jm N)) res := by
  refine w271_40 ?_
  obtain ⟨q1, q2, H⟩ := H
  refine ⟨fun hc => ?_, fun hc => ?_⟩
  · replace H := H.1 ((le_J ((congrArg F243 rfl).trans (t243)) rfl q1 q2).mp hc)
    exact Ev_to (clx (cli jl_0 (clx (clx (clx rfl))))) rfl rfl H
  · replace H := H.2 (fun hz => hc ((le_J ((congrArg F243 rfl).trans (t243)) rfl q1 q2).mpr hz))
    exact Ev_to (clx (cli rfl (cli jl_0 (clx (clx rfl))))) rfl rfl H
theorem v271_151 {E : gw_N} {N : NM} {res : Option Value × gw_H} {x1 : Int} (H : ((R (G243 N)) ∧ ((R x1) ∧ (((G243 N) ≤ x1 → res = (none, hs E (jm N))) ∧ (¬ (G243 N) ≤ x1 → ((0 ≤ x1 ∧ x1 < 64) ∧ ((R ((N 82) x1)) ∧ ((((N 82) x1) = 0 → Ev 4 271 151 [some (.ref 59), some (.int (J (x1 + 1))), none, none, none] [] (hs E (jm N)) res) ∧ (¬ ((N 82) x1) = 0 → (∃ (r1 : Int) (N1 : NM), Rn 272 [.ref 59, .int (J x1), .int (J (((N 81) x1) - ((N 59) 22)))] (hs E (jm N)) (some (.int (J r1))) (hs E (jm N1)) ∧ Ev 4 271 151 [some (.ref 59), some (.int (J (x1 + 1))), none, none, none] [] (hs E (jm N1)) res)))))))))) : Ev 4 271 151 [some (.ref 59), some (.int (J x1)), none, none, none] [] (hs E (jm N)) res := by
  refine w271_151 ?_
  obtain ⟨q1, q2, H⟩ := H
  refine ⟨fun hc => ?_, fun hc => ?_⟩
  · replace H := H.1 ((le_J ((congrArg F243 rfl).trans (t243)) rfl q1 q2).mp hc)
    exact H.trans (rt_n rfl)
  · replace H := H.2 (fun hz => hc ((le_J ((congrArg F243 rfl).trans (t243)) rfl q1 q2).mpr hz))
    obtain ⟨q3, H⟩ := H
    refine ⟨inb_J rfl q3 (by decide), ?_⟩
    obtain ⟨q4, H⟩ := H
    refine ⟨fun hc => ?_, fun hc => ?_⟩
    · replace H := H.1 ((eq_J (rd_J (jf_base _ _) rfl q3 (by decide)) jl_0 q4 (by decide)).mp hc)
      exact Ev_to (clx (cli (add_J rfl jl_1) (clx (clx (clx rfl))))) rfl rfl H
    · replace H := H.2 (fun hz => hc ((eq_J (rd_J (jf_base _ _) rfl q3 (by decide)) jl_0 q4 (by decide)).mpr hz))
      refine ⟨inb_J rfl q3 (by decide), ?_⟩
      obtain ⟨r1, N1, q5, H⟩ := H
      refine ⟨J r1, jm N1, Rn_to (clx (cai rfl (cai (sub_J (rd_J (jf_base _ _) rfl q3 (by decide)) (fld_J (jf_base _ _))) rfl))) rfl rfl q5, ?_⟩
      exact Ev_to (clx (cli (add_J rfl jl_1) (clx (clx (clx rfl))))) rfl rfl H
theorem v271_50 {E : gw_N} {N : NM} {res : Option Value × gw_H} {x1 : Int} {x2 : Int} (H : ((R x2) ∧ (((2 : Int) ≤ x2 → Ev 4 271 40 [some (.ref 59), some (.int (J (x1 + 1))), none, none, none] [] (hs E (jm N)) res) ∧ (¬ (2 : Int) ≤ x2 → ((Q245 N x1 x2) ∧ ((R (G245 N x1 x2)) ∧ (((G245 N x1 x2) = (-1) → Ev 4 271 50 [some (.ref 59), some (.int (J x1)), some (.int (J (x2 + 1))), none, none] [] (hs E (jm N)) res) ∧ (¬ (G245 N x1 x2) = (-1) → ((Q246 N x1 x2) ∧ ((0 ≤ x1 ∧ x1 < 64) ∧ ((R ((N 82) x1)) ∧ ((((N 82) x1) = 0 → ((Q270 N x1 (G245 N x1 x2) (G246 N x1 x2)) ∧ ((R (G270 N x1 (G245 N x1 x2) (G246 N x1 x2))) ∧ (((G270 N x1 (G245 N x1 x2) (G246 N x1 x2)) = 0 → ((0 ≤ (G245 N x1 x2) ∧ (G245 N x1 x2) < 64) ∧ ((R ((updZ (N 82) x1 0) (G245 N x1 x2))) ∧ ((((updZ (N 82) x1 0) (G245 N x1 x2)) = 0 → ((Q270 (upZ N 82 (updZ (N 82) x1 0)) (G245 N x1 x2) x1 (G246 N x1 x2)) ∧ ((R (G270 (upZ N 82 (updZ (N 82) x1 0)) (G245 N x1 x2) x1 (G246 N x1 x2))) ∧ (((G270 (upZ N 82 (updZ (N 82) x1 0)) (G245 N x1 x2) x1 (G246 N x1 x2)) = 0 → Ev 4 271 50 [some (.ref 59), some (.int (J x1)), some (.int (J (x2 + 1))), none, none] [] (hs E (jm (upZ N 82 (updZ (updZ (N 82) x1 0) (G245 N x1 x2) 0)))) res) ∧ (¬ (G270 (upZ N 82 (updZ (N 82) x1 0)) (G245 N x1 x2) x1 (G246 N x1 x2)) = 0 → Ev 4 271 50 [some (.ref 59), some (.int (J x1)), some (.int (J (x2 + 1))), none, none] [] (hs E (jm (upZ N 82 (updZ (updZ (N 82) x1 0) (G245 N x1 x2) 1)))) res))))) ∧ (¬ ((updZ (N 82) x1 0) (G245 N x1 x2)) = 0 → Ev 4 271 50 [some (.ref 59), some (.int (J x1)), some (.int (J (x2 + 1))), none, none] [] (hs E (jm (upZ N 82 (updZ (updZ (N 82) x1 0) (G245 N x1 x2) 1)))) res))))) ∧ (¬ (G270 N x1 (G245 N x1 x2) (G246 N x1 x2)) = 0 → ((0 ≤ (G245 N x1 x2) ∧ (G245 N x1 x2) < 64) ∧ ((R ((updZ (N 82) x1 1) (G245 N x1 x2))) ∧ ((((updZ (N 82) x1 1) (G245 N x1 x2)) = 0 → ((Q270 (upZ N 82 (updZ (N 82) x1 1)) (G245 N x1 x2) x1 (G246 N x1 x2)) ∧ ((R (G270 (upZ N 82 (updZ (N 82) x1 1)) (G245 N x1 x2) x1 (G246 N x1 x2))) ∧ (((G270 (upZ N 82 (updZ (N 82) x1 1)) (G245 N x1 x2) x1 (G246 N x1 x2)) = 0 → Ev 4 271 50 [some (.ref 59), some (.int (J x1)), some (.int (J (x2 + 1))), none, none] [] (hs E (jm (upZ N 82 (updZ (updZ (N 82) x1 1) (G245 N x1 x2) 0)))) res) ∧ (¬ (G270 (upZ N 82 (updZ (N 82) x1 1)) (G245 N x1 x2) x1 (G246 N x1 x2)) = 0 → Ev 4 271 50 [some (.ref 59), some (.int (J x1)), some (.int (J (x2 + 1))), none, none] [] (hs E (jm (upZ N 82 (updZ (updZ (N 82) x1 1) (G245 N x1 x2) 1)))) res))))) ∧ (¬ ((updZ (N 82) x1 1) (G245 N x1 x2)) = 0 → Ev 4 271 50 [some (.ref 59), some (.int (J x1)), some (.int (J (x2 + 1))), none, none] [] (hs E (jm (upZ N 82 (updZ (updZ (N 82) x1 1) (G245 N x1 x2) 1)))) res))))))))) ∧ (¬ ((N 82) x1) = 0 → ((0 ≤ (G245 N x1 x2) ∧ (G245 N x1 x2) < 64) ∧ ((R ((updZ (N 82) x1 1) (G245 N x1 x2))) ∧ ((((updZ (N 82) x1 1) (G245 N x1 x2)) = 0 → ((Q270 (upZ N 82 (updZ (N 82) x1 1)) (G245 N x1 x2) x1 (G246 N x1 x2)) ∧ ((R (G270 (upZ N 82 (updZ (N 82) x1 1)) (G245 N x1 x2) x1 (G246 N x1 x2))) ∧ (((G270 (upZ N 82 (updZ (N 82) x1 1)) (G245 N x1 x2) x1 (G246 N x1 x2)) = 0 → Ev 4 271 50 [some (.ref 59), some (.int (J x1)), some (.int (J (x2 + 1))), none, none] [] (hs E (jm (upZ N 82 (updZ (updZ (N 82) x1 1) (G245 N x1 x2) 0)))) res) ∧ (¬ (G270 (upZ N 82 (updZ (N 82) x1 1)) (G245 N x1 x2) x1 (G246 N x1 x2)) = 0 → Ev 4 271 50 [some (.ref 59), some (.int (J x1)), some (.int (J (x2 + 1))), none, none] [] (hs E (jm (upZ N 82 (updZ (updZ (N 82) x1 1) (G245 N x1 x2) 1)))) res))))) ∧ (¬ ((updZ (N 82) x1 1) (G245 N x1 x2)) = 0 → Ev 4 271 50 [some (.ref 59), some (.int (J x1)), some (.int (J (x2 + 1))), none, none] [] (hs E (jm (upZ N 82 (updZ (updZ (N 82) x1 1) (G245 N x1 x2) 1)))) res))))))))))))))))) : Ev 4 271 50 [some (.ref 59), some (.int (J x1)), some (.int (J x2)), none, none] [] (hs E (jm N)) res := by
  refine w271_50 ?_
  obtain ⟨q1, H⟩ := H
  refine ⟨fun hc => ?_, fun hc => ?_⟩
  · replace H := H.1 ((le_J jl_2 rfl (by decide) q1).mp hc)
    exact Ev_to (clx (cli (add_J rfl jl_1) (clx (clx (clx rfl))))) rfl rfl H
  · replace H := H.2 (fun hz => hc ((le_J jl_2 rfl (by decide) q1).mpr hz))
    obtain ⟨q2, H⟩ := H
    refine ⟨Eq.mpr (congr (congr (congrArg P245 rfl) rfl) rfl) (p245 q2), ?_⟩
    obtain ⟨q3, H⟩ := H
    refine ⟨fun hc => ?_, fun hc => ?_⟩
    · replace H := H.1 ((eq_J ((congr (congr (congrArg F245 rfl) rfl) rfl).trans (t245 q2)) jl_m1 q3 (by decide)).mp hc)
      exact Ev_to (clx (cli rfl (cli (add_J rfl jl_1) (clx (clx rfl))))) rfl rfl H
    · replace H := H.2 (fun hz => hc ((eq_J ((congr (congr (congrArg F245 rfl) rfl) rfl).trans (t245 q2)) jl_m1 q3 (by decide)).mpr hz))
      obtain ⟨q4, H⟩ := H
      refine ⟨Eq.mpr (congr (congr (congrArg P246 rfl) rfl) rfl) (p246 q4), ?_⟩
      obtain ⟨q5, H⟩ := H
      refine ⟨inb_J rfl q5 (by decide), ?_⟩
      obtain ⟨q6, H⟩ := H
      refine ⟨fun hc => ?_, fun hc => ?_⟩
      · replace H := H.1 ((eq_J (rd_J (jf_base _ _) rfl q5 (by decide)) jl_0 q6 (by decide)).mp hc)
        obtain ⟨q7, H⟩ := H
        refine ⟨Eq.mpr (congr (congr (congr (congrArg P270 rfl) rfl) ((congr (congr (congrArg F245 rfl) rfl) rfl).trans (t245 q2))) ((congr (congr (congrArg F246 rfl) rfl) rfl).trans (t246 q4))) (p270 q7), ?_⟩
        obtain ⟨q8, H⟩ := H
        refine ⟨fun hc => ?_, fun hc => ?_⟩
        · replace H := H.1 ((eq_J ((congr (congr (congr (congrArg F270 rfl) rfl) ((congr (congr (congrArg F245 rfl) rfl) rfl).trans (t245 q2))) ((congr (congr (congrArg F246 rfl) rfl) rfl).trans (t246 q4))).trans (t270 q7)) jl_0 q8 (by decide)).mp hc)
          refine ⟨inb_J rfl q5 (by decide), ?_⟩
          obtain ⟨q9, H⟩ := H
          refine ⟨inb_J ((congr (congr (congrArg F245 rfl) rfl) rfl).trans (t245 q2)) q9 (by decide), ?_⟩
          obtain ⟨q10, H⟩ := H
          refine ⟨fun hc => ?_, fun hc => ?_⟩
          · replace H := H.1 ((eq_J (rd_J (jf_upd (jf_base _ _) rfl q5 (by decide) (and1_J jl_0 (by decide : (0 : Int) = 0 ∨ (0 : Int) = 1))) ((congr (congr (congrArg F245 rfl) rfl) rfl).trans (t245 q2)) q9 (by decide)) jl_0 q10 (by decide)).mp hc)
            obtain ⟨q11, H⟩ := H
            refine ⟨Eq.mpr (congr (congr (congr (congrArg P270 (jm_up rfl (jf_upd (jf_base _ _) rfl q5 (by decide) (and1_J jl_0 (by decide : (0 : Int) = 0 ∨ (0 : Int) = 1))))) ((congr (congr (congrArg F245 rfl) rfl) rfl).trans (t245 q2))) rfl) ((congr (congr (congrArg F246 rfl) rfl) rfl).trans (t246 q4))) (p270 q11), ?_⟩
            obtain ⟨q12, H⟩ := H
            refine ⟨fun hc => ?_, fun hc => ?_⟩
            · replace H := H.1 ((eq_J ((congr (congr (congr (congrArg F270 (jm_up rfl (jf_upd (jf_base _ _) rfl q5 (by decide) (and1_J jl_0 (by decide : (0 : Int) = 0 ∨ (0 : Int) = 1))))) ((congr (congr (congrArg F245 rfl) rfl) rfl).trans (t245 q2))) rfl) ((congr (congr (congrArg F246 rfl) rfl) rfl).trans (t246 q4))).trans (t270 q11)) jl_0 q12 (by decide)).mp hc)
              refine ⟨inb_J ((congr (congr (congrArg F245 rfl) rfl) rfl).trans (t245 q2)) q9 (by decide), ?_⟩
              exact Ev_to (clx (cli rfl (cli (add_J rfl jl_1) (clx (clx rfl))))) rfl (jm_up rfl (jf_upd (jf_upd (jf_base _ _) rfl q5 (by decide) (and1_J jl_0 (by decide : (0 : Int) = 0 ∨ (0 : Int) = 1))) ((congr (congr (congrArg F245 rfl) rfl) rfl).trans (t245 q2)) q9 (by decide) (and1_J jl_0 (by decide : (0 : Int) = 0 ∨ (0 : Int) = 1)))) H
            · replace H := H.2 (fun hz => hc ((eq_J ((congr (congr (congr (congrArg F270 (jm_up rfl (jf_upd (jf_base _ _) rfl q5 (by decide) (and1_J jl_0 (by decide : (0 : Int) = 0 ∨ (0 : Int) = 1))))) ((congr (congr (congrArg F245 rfl) rfl) rfl).trans (t245 q2))) rfl) ((congr (congr (congrArg F246 rfl) rfl) rfl).trans (t246 q4))).trans (t270 q11)) jl_0 q12 (by decide)).mpr hz))
              refine ⟨inb_J ((congr (congr (congrArg F245 rfl) rfl) rfl).trans (t245 q2)) q9 (by decide), ?_⟩
              exact Ev_to (clx (cli rfl (cli (add_J rfl jl_1) (clx (clx rfl))))) rfl (jm_up rfl (jf_upd (jf_upd (jf_base _ _) rfl q5 (by decide) (and1_J jl_0 (by decide : (0 : Int) = 0 ∨ (0 : Int) = 1))) ((congr (congr (congrArg F245 rfl) rfl) rfl).trans (t245 q2)) q9 (by decide) (and1_J jl_1 (by decide : (1 : Int) = 0 ∨ (1 : Int) = 1)))) H
          · replace H := H.2 (fun hz => hc ((eq_J (rd_J (jf_upd (jf_base _ _) rfl q5 (by decide) (and1_J jl_0 (by decide : (0 : Int) = 0 ∨ (0 : Int) = 1))) ((congr (congr (congrArg F245 rfl) rfl) rfl).trans (t245 q2)) q9 (by decide)) jl_0 q10 (by decide)).mpr hz))
            refine ⟨inb_J ((congr (congr (congrArg F245 rfl) rfl) rfl).trans (t245 q2)) q9 (by decide), ?_⟩
            exact Ev_to (clx (cli rfl (cli (add_J rfl jl_1) (clx (clx rfl))))) rfl (jm_up rfl (jf_upd (jf_upd (jf_base _ _) rfl q5 (by decide) (and1_J jl_0 (by decide : (0 : Int) = 0 ∨ (0 : Int) = 1))) ((congr (congr (congrArg F245 rfl) rfl) rfl).trans (t245 q2)) q9 (by decide) (and1_J jl_1 (by decide : (1 : Int) = 0 ∨ (1 : Int) = 1)))) H
        · replace H := H.2 (fun hz => hc ((eq_J ((congr (congr (congr (congrArg F270 rfl) rfl) ((congr (congr (congrArg F245 rfl) rfl) rfl).trans (t245 q2))) ((congr (congr (congrArg F246 rfl) rfl) rfl).trans (t246 q4))).trans (t270 q7)) jl_0 q8 (by decide)).mpr hz))
          refine ⟨inb_J rfl q5 (by decide), ?_⟩
          obtain ⟨q13, H⟩ := H
          refine ⟨inb_J ((congr (congr (congrArg F245 rfl) rfl) rfl).trans (t245 q2)) q13 (by decide), ?_⟩
          obtain ⟨q14, H⟩ := H
          refine ⟨fun hc => ?_, fun hc => ?_⟩
          · replace H := H.1 ((eq_J (rd_J (jf_upd (jf_base _ _) rfl q5 (by decide) (and1_J jl_1 (by decide : (1 : Int) = 0 ∨ (1 : Int) = 1))) ((congr (congr (congrArg F245 rfl) rfl) rfl).trans (t245 q2)) q13 (by decide)) jl_0 q14 (by decide)).mp hc)
            obtain ⟨q15, H⟩ := H
            refine ⟨Eq.mpr (congr (congr (congr (congrArg P270 (jm_up rfl (jf_upd (jf_base _ _) rfl q5 (by decide) (and1_J jl_1 (by decide : (1 : Int) = 0 ∨ (1 : Int) = 1))))) ((congr (congr (congrArg F245 rfl) rfl) rfl).trans (t245 q2))) rfl) ((congr (congr (congrArg F246 rfl) rfl) rfl).trans (t246 q4))) (p270 q15), ?_⟩
            obtain ⟨q16, H⟩ := H
            refine ⟨fun hc => ?_, fun hc => ?_⟩
            · replace H := H.1 ((eq_J ((congr (congr (congr (congrArg F270 (jm_up rfl (jf_upd (jf_base _ _) rfl q5 (by decide) (and1_J jl_1 (by decide : (1 : Int) = 0 ∨ (1 : Int) = 1))))) ((congr (congr (congrArg F245 rfl) rfl) rfl).trans (t245 q2))) rfl) ((congr (congr (congrArg F246 rfl) rfl) rfl).trans (t246 q4))).trans (t270 q15)) jl_0 q16 (by decide)).mp hc)
              refine ⟨inb_J ((congr (congr (congrArg F245 rfl) rfl) rfl).trans (t245 q2)) q13 (by decide), ?_⟩
              exact Ev_to (clx (cli rfl (cli (add_J rfl jl_1) (clx (clx rfl))))) rfl (jm_up rfl (jf_upd (jf_upd (jf_base _ _) rfl q5 (by decide) (and1_J jl_1 (by decide : (1 : Int) = 0 ∨ (1 : Int) = 1))) ((congr (congr (congrArg F245 rfl) rfl) rfl).trans (t245 q2)) q13 (by decide) (and1_J jl_0 (by decide : (0 : Int) = 0 ∨ (0 : Int) = 1)))) H
            · replace H := H.2 (fun hz => hc ((eq_J ((congr (congr (congr (congrArg F270 (jm_up rfl (jf_upd (jf_base _ _) rfl q5 (by decide) (and1_J jl_1 (by decide : (1 : Int) = 0 ∨ (1 : Int) = 1))))) ((congr (congr (congrArg F245 rfl) rfl) rfl).trans (t245 q2))) rfl) ((congr (congr (congrArg F246 rfl) rfl) rfl).trans (t246 q4))).trans (t270 q15)) jl_0 q16 (by decide)).mpr hz))
              refine ⟨inb_J ((congr (congr (congrArg F245 rfl) rfl) rfl).trans (t245 q2)) q13 (by decide), ?_⟩
              exact Ev_to (clx (cli rfl (cli (add_J rfl jl_1) (clx (clx rfl))))) rfl (jm_up rfl (jf_upd (jf_upd (jf_base _ _) rfl q5 (by decide) (and1_J jl_1 (by decide : (1 : Int) = 0 ∨ (1 : Int) = 1))) ((congr (congr (congrArg F245 rfl) rfl) rfl).trans (t245 q2)) q13 (by decide) (and1_J jl_1 (by decide : (1 : Int) = 0 ∨ (1 : Int) = 1)))) H
          · replace H := H.2 (fun hz => hc ((eq_J (rd_J (jf_upd (jf_base _ _) rfl q5 (by decide) (and1_J jl_1 (by decide : (1 : Int) = 0 ∨ (1 : Int) = 1))) ((congr (congr (congrArg F245 rfl) rfl) rfl).trans (t245 q2)) q13 (by decide)) jl_0 q14 (by decide)).mpr hz))
            refine ⟨inb_J ((congr (congr (congrArg F245 rfl) rfl) rfl).trans (t245 q2)) q13 (by decide), ?_⟩
            exact Ev_to (clx (cli rfl (cli (add_J rfl jl_1) (clx (clx rfl))))) rfl (jm_up rfl (jf_upd (jf_upd (jf_base _ _) rfl q5 (by decide) (and1_J jl_1 (by decide : (1 : Int) = 0 ∨ (1 : Int) = 1))) ((congr (congr (congrArg F245 rfl) rfl) rfl).trans (t245 q2)) q13 (by decide) (and1_J jl_1 (by decide : (1 : Int) = 0 ∨ (1 : Int) = 1)))) H
      · replace H := H.2 (fun hz => hc ((eq_J (rd_J (jf_base _ _) rfl q5 (by decide)) jl_0 q6 (by decide)).mpr hz))
        refine ⟨inb_J rfl q5 (by decide), ?_⟩
        obtain ⟨q17, H⟩ := H
        refine ⟨inb_J ((congr (congr (congrArg F245 rfl) rfl) rfl).trans (t245 q2)) q17 (by decide), ?_⟩
        obtain ⟨q18, H⟩ := H
        refine ⟨fun hc => ?_, fun hc => ?_⟩
        · replace H := H.1 ((eq_J (rd_J (jf_upd (jf_base _ _) rfl q5 (by decide) (and1_J jl_1 (by decide : (1 : Int) = 0 ∨ (1 : Int) = 1))) ((congr (congr (congrArg F245 rfl) rfl) rfl).trans (t245 q2)) q17 (by decide)) jl_0 q18 (by decide)).mp hc)
          obtain ⟨q19, H⟩ := H
          refine ⟨Eq.mpr (congr (congr (congr (congrArg P270 (jm_up rfl (jf_upd (jf_base _ _) rfl q5 (by decide) (and1_J jl_1 (by decide : (1 : Int) = 0 ∨ (1 : Int) = 1))))) ((congr (congr (congrArg F245 rfl) rfl) rfl).trans (t245 q2))) rfl) ((congr (congr (congrArg F246 rfl) rfl) rfl).trans (t246 q4))) (p270 q19), ?_⟩
          obtain ⟨q20, H⟩ := H
          refine ⟨fun hc => ?_, fun hc => ?_⟩
          · replace H := H.1 ((eq_J ((congr (congr (congr (congrArg F270 (jm_up rfl (jf_upd (jf_base _ _) rfl q5 (by decide) (and1_J jl_1 (by decide : (1 : Int) = 0 ∨ (1 : Int) = 1))))) ((congr (congr (congrArg F245 rfl) rfl) rfl).trans (t245 q2))) rfl) ((congr (congr (congrArg F246 rfl) rfl) rfl).trans (t246 q4))).trans (t270 q19)) jl_0 q20 (by decide)).mp hc)
            refine ⟨inb_J ((congr (congr (congrArg F245 rfl) rfl) rfl).trans (t245 q2)) q17 (by decide), ?_⟩
            exact Ev_to (clx (cli rfl (cli (add_J rfl jl_1) (clx (clx rfl))))) rfl (jm_up rfl (jf_upd (jf_upd (jf_base _ _) rfl q5 (by decide) (and1_J jl_1 (by decide : (1 : Int) = 0 ∨ (1 : Int) = 1))) ((congr (congr (congrArg F245 rfl) rfl) rfl).trans (t245 q2)) q17 (by decide) (and1_J jl_0 (by decide : (0 : Int) = 0 ∨ (0 : Int) = 1)))) H
          · replace H := H.2 (fun hz => hc ((eq_J ((congr (congr (congr (congrArg F270 (jm_up rfl (jf_upd (jf_base _ _) rfl q5 (by decide) (and1_J jl_1 (by decide : (1 : Int) = 0 ∨ (1 : Int) = 1))))) ((congr (congr (congrArg F245 rfl) rfl) rfl).trans (t245 q2))) rfl) ((congr (congr (congrArg F246 rfl) rfl) rfl).trans (t246 q4))).trans (t270 q19)) jl_0 q20 (by decide)).mpr hz))
            refine ⟨inb_J ((congr (congr (congrArg F245 rfl) rfl) rfl).trans (t245 q2)) q17 (by decide), ?_⟩
            exact Ev_to (clx (cli rfl (cli (add_J rfl jl_1) (clx (clx rfl))))) rfl (jm_up rfl (jf_upd (jf_upd (jf_base _ _) rfl q5 (by decide) (and1_J jl_1 (by decide : (1 : Int) = 0 ∨ (1 : Int) = 1))) ((congr (congr (congrArg F245 rfl) rfl) rfl).trans (t245 q2)) q17 (by decide) (and1_J jl_1 (by decide : (1 : Int) = 0 ∨ (1 : Int) = 1)))) H
        · replace H := H.2 (fun hz => hc ((eq_J (rd_J (jf_upd (jf_base _ _) rfl q5 (by decide) (and1_J jl_1 (by decide : (1 : Int) = 0 ∨ (1 : Int) = 1))) ((congr (congr (congrArg F245 rfl) rfl) rfl).trans (t245 q2)) q17 (by decide)) jl_0 q18 (by decide)).mpr hz))
          refine ⟨inb_J ((congr (congr (congrArg F245 rfl) rfl) rfl).trans (t245 q2)) q17 (by decide), ?_⟩
          exact Ev_to (clx (cli rfl (cli (add_J rfl jl_1) (clx (clx rfl))))) rfl (jm_up rfl (jf_upd (jf_upd (jf_base _ _) rfl q5 (by decide) (and1_J jl_1 (by decide : (1 : Int) = 0 ∨ (1 : Int) = 1))) ((congr (congr (congrArg F245 rfl) rfl) rfl).trans (t245 q2)) q17 (by decide) (and1_J jl_1 (by decide : (1 : Int) = 0 ∨ (1 : Int) = 1)))) H
-- 277 GlassWiresModel bleeding ()I
theorem v277_0 {E : gw_N} {N : NM} {res : Option Value × gw_H}  (H : Ev 4 277 4 [some (.ref 59), some (.int (J 0)), some (.int (J 0)), none, none] [] (hs E (jm N)) res) : Ev 4 277 0 [some (.ref 59), none, none, none, none] [] (hs E (jm N)) res := by
  refine w277_0 ?_
  exact Ev_to (clx (cli jl_0 (cli jl_0 (clx (clx rfl))))) rfl rfl H
theorem v277_4 {E : gw_N} {N : NM} {res : Option Value × gw_H} {x1 : Int} {x2 : Int} (H : ((R (G243 N)) ∧ ((R x2) ∧ (((G243 N) ≤ x2 → res = (some (.int (J x1)), hs E (jm N))) ∧ (¬ (G243 N) ≤ x2 → Ev 4 277 14 [some (.ref 59), some (.int (J x1)), some (.int (J x2)), some (.int (J 0)), none] [] (hs E (jm N)) res))))) : Ev 4 277 4 [some (.ref 59), some (.int (J x1)), some (.int (J x2)), none, none] [] (hs E (jm N)) res := by
  refine w277_4 ?_
  obtain ⟨q1, q2, H⟩ := H
  refine ⟨fun hc => ?_, fun hc => ?_⟩
  · replace H := H.1 ((le_J ((congrArg F243 rfl).trans (t243)) rfl q1 q2).mp hc)
    exact H.trans (rt_i rfl rfl)
  · replace H := H.2 (fun hz => hc ((le_J ((congrArg F243 rfl).trans (t243)) rfl q1 q2).mpr hz))
    exact Ev_to (clx (cli rfl (cli rfl (cli jl_0 (clx rfl))))) rfl rfl H
theorem v277_14 {E : gw_N} {N : NM} {res : Option Value × gw_H} {x1 : Int} {x2 : Int} {x3 : Int} (H : ((R x3) ∧ (((2 : Int) ≤ x3 → Ev 4 277 4 [some (.ref 59), some (.int (J x1)), some (.int (J (x2 + 1))), none, none] [] (hs E (jm N)) res) ∧ (¬ (2 : Int) ≤ x3 → ((Q245 N x2 x3) ∧ ((R (G245 N x2 x3)) ∧ (((G245 N x2 x3) = (-1) → Ev 4 277 14 [some (.ref 59), some (.int (J x1)), some (.int (J x2)), some (.int (J (x3 + 1))), none] [] (hs E (jm N)) res) ∧ (¬ (G245 N x2 x3) = (-1) → ((0 ≤ x2 ∧ x2 < 64) ∧ ((R ((N 77) x2)) ∧ ((((N 77) x2) ≤ 0 → Ev 4 277 14 [some (.ref 59), some (.int (J x1)), some (.int (J x2)), some (.int (J (x3 + 1))), none] [] (hs E (jm N)) res) ∧ (¬ ((N 77) x2) ≤ 0 → ((0 ≤ (G245 N x2 x3) ∧ (G245 N x2 x3) < 64) ∧ ((R ((N 77) (G245 N x2 x3))) ∧ ((((N 77) (G245 N x2 x3)) ≤ 0 → Ev 4 277 14 [some (.ref 59), some (.int (J x1)), some (.int (J x2)), some (.int (J (x3 + 1))), none] [] (hs E (jm N)) res) ∧ (¬ ((N 77) (G245 N x2 x3)) ≤ 0 → ((Q276 N x2) ∧ ((0 ≤ (G276 N x2) ∧ (G276 N x2) < 768) ∧ ((Q276 N (G245 N x2 x3)) ∧ ((0 ≤ (G276 N (G245 N x2 x3)) ∧ (G276 N (G245 N x2 x3)) < 768) ∧ ((0 ≤ ((8 * ((N 78) (G276 N x2))) + ((N 78) (G276 N (G245 N x2 x3)))) ∧ ((8 * ((N 78) (G276 N x2))) + ((N 78) (G276 N (G245 N x2 x3)))) < 64) ∧ ((R ((N 76) ((8 * ((N 78) (G276 N x2))) + ((N 78) (G276 N (G245 N x2 x3)))))) ∧ ((((N 76) ((8 * ((N 78) (G276 N x2))) + ((N 78) (G276 N (G245 N x2 x3))))) = 0 → Ev 4 277 14 [some (.ref 59), some (.int (J x1)), some (.int (J x2)), some (.int (J (x3 + 1))), none] [] (hs E (jm N)) res) ∧ (¬ ((N 76) ((8 * ((N 78) (G276 N x2))) + ((N 78) (G276 N (G245 N x2 x3))))) = 0 → ((Q246 N x2 x3) ∧ (∃ (r1 : Int), Rn 275 [.ref 59, .int (J (G246 N x2 x3))] (hs E (jm N)) (some (.int (J r1))) (hs E (jm N)) ∧ ((R r1) ∧ ((r1 = 0 → Ev 4 277 14 [some (.ref 59), some (.int (J (x1 + 1))), some (.int (J x2)), some (.int (J (x3 + 1))), none] [] (hs E (jm N)) res) ∧ (¬ r1 = 0 → Ev 4 277 14 [some (.ref 59), some (.int (J x1)), some (.int (J x2)), some (.int (J (x3 + 1))), none] [] (hs E (jm N)) res))))))))))))))))))))))))))))) : Ev 4 277 14 [some (.ref 59), some (.int (J x1)), some (.int (J x2)), some (.int (J x3)), none] [] (hs E (jm N)) res := by
  refine w277_14 ?_
  obtain ⟨q1, H⟩ := H
  refine ⟨fun hc => ?_, fun hc => ?_⟩
  · replace H := H.1 ((le_J jl_2 rfl (by decide) q1).mp hc)
    exact Ev_to (clx (cli rfl (cli (add_J rfl jl_1) (clx (clx rfl))))) rfl rfl H
  · replace H := H.2 (fun hz => hc ((le_J jl_2 rfl (by decide) q1).mpr hz))
    obtain ⟨q2, H⟩ := H
    refine ⟨Eq.mpr (congr (congr (congrArg P245 rfl) rfl) rfl) (p245 q2), ?_⟩
    obtain ⟨q3, H⟩ := H
    refine ⟨fun hc => ?_, fun hc => ?_⟩
    · replace H := H.1 ((eq_J ((congr (congr (congrArg F245 rfl) rfl) rfl).trans (t245 q2)) jl_m1 q3 (by decide)).mp hc)
      exact Ev_to (clx (cli rfl (cli rfl (cli (add_J rfl jl_1) (clx rfl))))) rfl rfl H
    · replace H := H.2 (fun hz => hc ((eq_J ((congr (congr (congrArg F245 rfl) rfl) rfl).trans (t245 q2)) jl_m1 q3 (by decide)).mpr hz))
      obtain ⟨q4, H⟩ := H
      refine ⟨inb_J rfl q4 (by decide), ?_⟩
      obtain ⟨q5, H⟩ := H
      refine ⟨fun hc => ?_, fun hc => ?_⟩
      · replace H := H.1 ((le_J (rd_J (jf_base _ _) rfl q4 (by decide)) jl_0 q5 (by decide)).mp hc)
        exact Ev_to (clx (cli rfl (cli rfl (cli (add_J rfl jl_1) (clx rfl))))) rfl rfl H
      · replace H := H.2 (fun hz => hc ((le_J (rd_J (jf_base _ _) rfl q4 (by decide)) jl_0 q5 (by decide)).mpr hz))
        obtain ⟨q6, H⟩ := H
        refine ⟨inb_J ((congr (congr (congrArg F245 rfl) rfl) rfl).trans (t245 q2)) q6 (by decide), ?_⟩
        obtain ⟨q7, H⟩ := H
        refine ⟨fun hc => ?_, fun hc => ?_⟩
        · replace H := H.1 ((le_J (rd_J (jf_base _ _) ((congr (congr (congrArg F245 rfl) rfl) rfl).trans (t245 q2)) q6 (by decide)) jl_0 q7 (by decide)).mp hc)
          exact Ev_to (clx (cli rfl (cli rfl (cli (add_J rfl jl_1) (clx rfl))))) rfl rfl H
        · replace H := H.2 (fun hz => hc ((le_J (rd_J (jf_base _ _) ((congr (congr (congrArg F245 rfl) rfl) rfl).trans (t245 q2)) q6 (by decide)) jl_0 q7 (by decide)).mpr hz))
          obtain ⟨q8, H⟩ := H
          refine ⟨Eq.mpr (congr (congrArg P276 rfl) rfl) (p276 q8), ?_⟩
          obtain ⟨q9, H⟩ := H
          refine ⟨inb_J ((congr (congrArg F276 rfl) rfl).trans (t276 q8)) q9 (by decide), ?_⟩
          obtain ⟨q10, H⟩ := H
          refine ⟨Eq.mpr (congr (congrArg P276 rfl) ((congr (congr (congrArg F245 rfl) rfl) rfl).trans (t245 q2))) (p276 q10), ?_⟩
          obtain ⟨q11, H⟩ := H
          refine ⟨inb_J ((congr (congrArg F276 rfl) ((congr (congr (congrArg F245 rfl) rfl) rfl).trans (t245 q2))).trans (t276 q10)) q11 (by decide), ?_⟩
          obtain ⟨q12, H⟩ := H
          refine ⟨inb_J (add_J (mul_J jl_8 (rd_J (jf_base _ _) ((congr (congrArg F276 rfl) rfl).trans (t276 q8)) q9 (by decide))) (rd_J (jf_base _ _) ((congr (congrArg F276 rfl) ((congr (congr (congrArg F245 rfl) rfl) rfl).trans (t245 q2))).trans (t276 q10)) q11 (by decide))) q12 (by decide), ?_⟩
          obtain ⟨q13, H⟩ := H
          refine ⟨fun hc => ?_, fun hc => ?_⟩
          · replace H := H.1 ((eq_J (rd_J (jf_base _ _) (add_J (mul_J jl_8 (rd_J (jf_base _ _) ((congr (congrArg F276 rfl) rfl).trans (t276 q8)) q9 (by decide))) (rd_J (jf_base _ _) ((congr (congrArg F276 rfl) ((congr (congr (congrArg F245 rfl) rfl) rfl).trans (t245 q2))).trans (t276 q10)) q11 (by decide))) q12 (by decide)) jl_0 q13 (by decide)).mp hc)
            exact Ev_to (clx (cli rfl (cli rfl (cli (add_J rfl jl_1) (clx rfl))))) rfl rfl H
          · replace H := H.2 (fun hz => hc ((eq_J (rd_J (jf_base _ _) (add_J (mul_J jl_8 (rd_J (jf_base _ _) ((congr (congrArg F276 rfl) rfl).trans (t276 q8)) q9 (by decide))) (rd_J (jf_base _ _) ((congr (congrArg F276 rfl) ((congr (congr (congrArg F245 rfl) rfl) rfl).trans (t245 q2))).trans (t276 q10)) q11 (by decide))) q12 (by decide)) jl_0 q13 (by decide)).mpr hz))
            obtain ⟨q14, H⟩ := H
            refine ⟨Eq.mpr (congr (congr (congrArg P246 rfl) rfl) rfl) (p246 q14), ?_⟩
            obtain ⟨r1, q16, H⟩ := H
            refine ⟨J r1, Rn_to (clx (cai ((congr (congr (congrArg F246 rfl) rfl) rfl).trans (t246 q14)) rfl)) rfl rfl q16, ?_⟩
            obtain ⟨q15, H⟩ := H
            refine ⟨fun hc => ?_, fun hc => ?_⟩
            · replace H := H.1 ((eq_J rfl jl_0 q15 (by decide)).mp hc)
              exact Ev_to (clx (cli (add_J rfl jl_1) (cli rfl (cli (add_J rfl jl_1) (clx rfl))))) rfl rfl H
            · replace H := H.2 (fun hz => hc ((eq_J rfl jl_0 q15 (by decide)).mpr hz))
              exact Ev_to (clx (cli rfl (cli rfl (cli (add_J rfl jl_1) (clx rfl))))) rfl rfl H
-- 288 GlassWiresModel bowNow ()I
theorem v288_0 {E : gw_N} {N : NM} {res : Option Value × gw_H}  (H : (∃ (r1 : Int), Rn 287 [.ref 59, .int (J ((N 59) 34)), .int (J ((N 59) 35))] (hs E (jm N)) (some (.int (J r1))) (hs E (jm N)) ∧ res = (some (.int (J r1)), hs E (jm N)))) : Ev 4 288 0 [some (.ref 59)] [] (hs E (jm N)) res := by
  refine w288_0 ?_
  obtain ⟨r1, q1, H⟩ := H
  refine ⟨J r1, Rn_to (clx (cai (fld_J (jf_base _ _)) (cai (fld_J (jf_base _ _)) rfl))) rfl rfl q1, ?_⟩
  exact H.trans (rt_i rfl rfl)
-- 291 GlassWiresModel straight (I)I
theorem v291_0 {E : gw_N} {N : NM} {res : Option Value × gw_H} {x1 : Int} (H : ((Q261 N x1) ∧ ((R (G261 N x1)) ∧ (((G261 N x1) = 0 → res = (some (.int (J (-101))), hs E (jm N))) ∧ (¬ (G261 N x1) = 0 → Ev 4 291 14 [some (.ref 59), some (.int (J x1)), some (.int (J 0)), some (.int (J 1))] [] (hs E (jm N)) res))))) : Ev 4 291 0 [some (.ref 59), some (.int (J x1)), none, none] [] (hs E (jm N)) res := by
  refine w291_0 ?_
  obtain ⟨q1, H⟩ := H
  obtain ⟨q2, H⟩ := H
  refine ⟨fun hc => ?_, fun hc => ?_⟩
  · replace H := H.1 ((eq_J ((congr (congrArg F261 rfl) rfl).trans (t261 q1)) jl_0 q2 (by decide)).mp hc)
    exact H.trans (rt_i jl_m101 rfl)
  · replace H := H.2 (fun hz => hc ((eq_J ((congr (congrArg F261 rfl) rfl).trans (t261 q1)) jl_0 q2 (by decide)).mpr hz))
    exact Ev_to (clx (cli rfl (cli jl_0 (cli jl_1 rfl)))) rfl rfl H
theorem v291_14 {E : gw_N} {N : NM} {res : Option Value × gw_H} {x1 : Int} {x2 : Int} {x3 : Int} (H : ((R x3) ∧ (((100 : Int) ≤ x3 → res = (some (.int (J x2)), hs E (jm N))) ∧ (¬ (100 : Int) ≤ x3 → (∃ (r1 : Int), Rn 287 [.ref 59, .int (J x1), .int (J x3)] (hs E (jm N)) (some (.int (J r1))) (hs E (jm N)) ∧ ((Q290 N r1) ∧ (∃ (r2 : Int), Rn 287 [.ref 59, .int (J x1), .int (J x2)] (hs E (jm N)) (some (.int (J r2))) (hs E (jm N)) ∧ ((Q290 N r2) ∧ ((R (G290 N r2)) ∧ ((R (G290 N r1)) ∧ (((G290 N r2) ≤ (G290 N r1) → Ev 4 291 14 [some (.ref 59), some (.int (J x1)), some (.int (J x2)), some (.int (J (x3 + 1)))] [] (hs E (jm N)) res) ∧ (¬ (G290 N r2) ≤ (G290 N r1) → Ev 4 291 14 [some (.ref 59), some (.int (J x1)), some (.int (J x3)), some (.int (J (x3 + 1)))] [] (hs E (jm N)) res)))))))))))) : Ev 4 291 14 [some (.ref 59), some (.int (J x1)), some (.int (J x2)), some (.int (J x3))] [] (hs E (jm N)) res := by
  refine w291_14 ?_
  obtain ⟨q1, H⟩ := H
  refine ⟨fun hc => ?_, fun hc => ?_⟩
  · replace H := H.1 ((le_J jl_100 rfl (by decide) q1).mp hc)
    exact H.trans (rt_i rfl rfl)
  · replace H := H.2 (fun hz => hc ((le_J jl_100 rfl (by decide) q1).mpr hz))
    obtain ⟨r1, q7, H⟩ := H
    refine ⟨J r1, Rn_to (clx (cai rfl (cai rfl rfl))) rfl rfl q7, ?_⟩
    obtain ⟨q2, H⟩ := H
    obtain ⟨r2, q6, H⟩ := H
    refine ⟨J r2, Rn_to (clx (cai rfl (cai rfl rfl))) rfl rfl q6, ?_⟩
    obtain ⟨q3, H⟩ := H
    obtain ⟨q4, q5, H⟩ := H
    refine ⟨fun hc => ?_, fun hc => ?_⟩
    · replace H := H.1 ((le_J ((congr (congrArg F290 rfl) rfl).trans (t290 q3)) ((congr (congrArg F290 rfl) rfl).trans (t290 q2)) q4 q5).mp hc)
      exact Ev_to (clx (cli rfl (cli rfl (cli (add_J rfl jl_1) rfl)))) rfl rfl H
    · replace H := H.2 (fun hz => hc ((le_J ((congr (congrArg F290 rfl) rfl).trans (t290 q3)) ((congr (congrArg F290 rfl) rfl).trans (t290 q2)) q4 q5).mpr hz))
      exact Ev_to (clx (cli rfl (cli rfl (cli (add_J rfl jl_1) rfl)))) rfl rfl H
-- 1 GlassWires$Cells find ()V
theorem v1_0 {E : gw_N} {N : NM} {res : Option Value × gw_H}  (H : (∃ (N1 : NM), Rn 313 [.ref 33, .int (J (-1))] (hs E (jm N)) none (hs E (jm N1)) ∧ Ev 5 1 15 [some (.ref 32), some (.int (J 0))] [] (hs E (jm (upZ N1 32 (updZ (N1 32) 5 0)))) res)) : Ev 5 1 0 [some (.ref 32), none] [] (hs E (jm N)) res := by
  refine w1_0 ?_
  obtain ⟨N1, q1, H⟩ := H
  refine ⟨jm N1, Rn_to (clx (cai jl_m1 rfl)) rfl rfl q1, ?_⟩
  exact Ev_to (clx (cli jl_0 rfl)) rfl (jm_up rfl (jf_updk (jf_base _ _) jl_0)) H
theorem v1_15 {E : gw_N} {N : NM} {res : Option Value × gw_H} {x1 : Int} (H : ((R (G40 N)) ∧ ((R x1) ∧ (((G40 N) ≤ x1 → res = (none, hs E (jm N))) ∧ (¬ (G40 N) ≤ x1 → ((0 ≤ x1 ∧ x1 < 64) ∧ ((R ((N 33) x1)) ∧ ((((N 33) x1) = (-1) → (∃ (r1 : Int) (N1 : NM), Rn 2 [.ref 32, .int (J x1)] (hs E (jm N)) (some (.int (J r1))) (hs E (jm N1)) ∧ Ev 5 1 15 [some (.ref 32), some (.int (J (x1 + 1)))] [] (hs E (jm (upZ (upZ N1 34 (updZ (N1 34) x1 r1)) 32 (updZ (N1 32) 5 (((N1 32) 5) + 1))))) res)) ∧ (¬ ((N 33) x1) = (-1) → Ev 5 1 15 [some (.ref 32), some (.int (J (x1 + 1)))] [] (hs E (jm N)) res))))))))) : Ev 5 1 15 [some (.ref 32), some (.int (J x1))] [] (hs E (jm N)) res := by
  refine w1_15 ?_
  obtain ⟨q1, q2, H⟩ := H
  refine ⟨fun hc => ?_, fun hc => ?_⟩
  · replace H := H.1 ((le_J ((congrArg F40 rfl).trans (t40)) rfl q1 q2).mp hc)
    exact H.trans (rt_n rfl)
  · replace H := H.2 (fun hz => hc ((le_J ((congrArg F40 rfl).trans (t40)) rfl q1 q2).mpr hz))
    obtain ⟨q3, H⟩ := H
    refine ⟨inb_J rfl q3 (by decide), ?_⟩
    obtain ⟨q4, H⟩ := H
    refine ⟨fun hc => ?_, fun hc => ?_⟩
    · replace H := H.1 ((eq_J (rd_J (jf_base _ _) rfl q3 (by decide)) jl_m1 q4 (by decide)).mp hc)
      obtain ⟨r1, N1, q5, H⟩ := H
      refine ⟨J r1, jm N1, Rn_to (clx (cai rfl rfl)) rfl rfl q5, ?_⟩
      refine ⟨inb_J rfl q3 (by decide), ?_⟩
      exact Ev_to (clx (cli (add_J rfl jl_1) rfl)) rfl (jm_up (jm_up rfl (jf_upd (jf_base _ _) rfl q3 (by decide) rfl)) (jf_updk (jf_base _ _) (add_J (fld_J (jf_base _ _)) jl_1))) H
    · replace H := H.2 (fun hz => hc ((eq_J (rd_J (jf_base _ _) rfl q3 (by decide)) jl_m1 q4 (by decide)).mpr hz))
      exact Ev_to (clx (cli (add_J rfl jl_1) rfl)) rfl rfl H
-- 22 GlassWires$Glass runOver ()V
theorem v22_0 {E : gw_N} {N : NM} {res : Option Value × gw_H}  (H : Ev 5 22 2 [some (.ref 44), some (.int (J 0))] [] (hs E (jm N)) res) : Ev 5 22 0 [some (.ref 44), none] [] (hs E (jm N)) res := by
  refine w22_0 ?_
  exact Ev_to (clx (cli jl_0 rfl)) rfl rfl H
theorem v22_2 {E : gw_N} {N : NM} {res : Option Value × gw_H} {x1 : Int} (H : ((R (G40 N)) ∧ ((R x1) ∧ (((G40 N) ≤ x1 → Ev 5 22 32 [some (.ref 44), some (.int (J 0))] [] (hs E (jm N)) res) ∧ (¬ (G40 N) ≤ x1 → (∃ (r1 : Int), Rn 13 [.ref 44, .int (J x1)] (hs E (jm N)) (some (.int (J r1))) (hs E (jm N)) ∧ ((0 ≤ x1 ∧ x1 < 64) ∧ Ev 5 22 2 [some (.ref 44), some (.int (J (x1 + 1)))] [] (hs E (jm (upZ N 49 (updZ (N 49) x1 r1)))) res))))))) : Ev 5 22 2 [some (.ref 44), some (.int (J x1))] [] (hs E (jm N)) res := by
  refine w22_2 ?_
  obtain ⟨q1, q2, H⟩ := H
  refine ⟨fun hc => ?_, fun hc => ?_⟩
  · replace H := H.1 ((le_J ((congrArg F40 rfl).trans (t40)) rfl q1 q2).mp hc)
    exact Ev_to (clx (cli jl_0 rfl)) rfl rfl H
  · replace H := H.2 (fun hz => hc ((le_J ((congrArg F40 rfl).trans (t40)) rfl q1 q2).mpr hz))
    obtain ⟨r1, q4, H⟩ := H
    refine ⟨J r1, Rn_to (clx (cai rfl rfl)) rfl rfl q4, ?_⟩
    obtain ⟨q3, H⟩ := H
    refine ⟨inb_J rfl q3 (by decide), ?_⟩
    exact Ev_to (clx (cli (add_J rfl jl_1) rfl)) rfl (jm_up rfl (jf_upd (jf_base _ _) rfl q3 (by decide) rfl)) H
theorem v22_32 {E : gw_N} {N : NM} {res : Option Value × gw_H} {x1 : Int} (H : ((R (G40 N)) ∧ ((R x1) ∧ (((G40 N) ≤ x1 → res = (none, hs E (jm N))) ∧ (¬ (G40 N) ≤ x1 → ((0 ≤ x1 ∧ x1 < 64) ∧ ((Q103 N) ∧ ((R ((N 49) x1)) ∧ ((R (G103 N)) ∧ ((((N 49) x1) ≤ (G103 N) → Ev 5 22 32 [some (.ref 44), some (.int (J (x1 + 1)))] [] (hs E (jm N)) res) ∧ (¬ ((N 49) x1) ≤ (G103 N) → (∃ (r1 : Int), Rn 23 [.ref 44, .int (J x1)] (hs E (jm N)) (some (.int (J r1))) (hs E (jm N)) ∧ ((R r1) ∧ ((r1 = 0 → Ev 5 22 32 [some (.ref 44), some (.int (J (x1 + 1)))] [] (hs E (jm N)) res) ∧ (¬ r1 = 0 → (∃ (r2 : Int) (N2 : NM), Rn 24 [.ref 44, .int (J x1), .int (J (((N 49) x1) - (G103 N)))] (hs E (jm N)) (some (.int (J r2))) (hs E (jm N2)) ∧ Ev 5 22 32 [some (.ref 44), some (.int (J (x1 + 1)))] [] (hs E (jm N2)) res)))))))))))))))) : Ev 5 22 32 [some (.ref 44), some (.int (J x1))] [] (hs E (jm N)) res := by
  refine w22_32 ?_
  obtain ⟨q1, q2, H⟩ := H
  refine ⟨fun hc => ?_, fun hc => ?_⟩
  · replace H := H.1 ((le_J ((congrArg F40 rfl).trans (t40)) rfl q1 q2).mp hc)
    exact H.trans (rt_n rfl)
  · replace H := H.2 (fun hz => hc ((le_J ((congrArg F40 rfl).trans (t40)) rfl q1 q2).mpr hz))
    obtain ⟨q3, H⟩ := H
    refine ⟨inb_J rfl q3 (by decide), ?_⟩
    obtain ⟨q4, H⟩ := H
    refine ⟨Eq.mpr (congrArg P103 rfl) (p103 q4), ?_⟩
    obtain ⟨q5, q6, H⟩ := H
    refine ⟨fun hc => ?_, fun hc => ?_⟩
    · replace H := H.1 ((le_J (rd_J (jf_base _ _) rfl q3 (by decide)) ((congrArg F103 rfl).trans (t103 q4)) q5 q6).mp hc)
      exact Ev_to (clx (cli (add_J rfl jl_1) rfl)) rfl rfl H
    · replace H := H.2 (fun hz => hc ((le_J (rd_J (jf_base _ _) rfl q3 (by decide)) ((congrArg F103 rfl).trans (t103 q4)) q5 q6).mpr hz))
      obtain ⟨r1, q9, H⟩ := H
      refine ⟨J r1, Rn_to (clx (cai rfl rfl)) rfl rfl q9, ?_⟩
      obtain ⟨q7, H⟩ := H
      refine ⟨fun hc => ?_, fun hc => ?_⟩
      · replace H := H.1 ((eq_J rfl jl_0 q7 (by decide)).mp hc)
        exact Ev_to (clx (cli (add_J rfl jl_1) rfl)) rfl rfl H
      · replace H := H.2 (fun hz => hc ((eq_J rfl jl_0 q7 (by decide)).mpr hz))
        refine ⟨inb_J rfl q3 (by decide), ?_⟩
        refine ⟨Eq.mpr (congrArg P103 rfl) (p103 q4), ?_⟩
        obtain ⟨r2, N2, q8, H⟩ := H
        refine ⟨J r2, jm N2, Rn_to (clx (cai rfl (cai (sub_J (rd_J (jf_base _ _) rfl q3 (by decide)) ((congrArg F103 rfl).trans (t103 q4))) rfl))) rfl rfl q8, ?_⟩
        exact Ev_to (clx (cli (add_J rfl jl_1) rfl)) rfl rfl H
-- 28 GlassWires$Glass bleedingEdges ()I
theorem v28_0 {E : gw_N} {N : NM} {res : Option Value × gw_H}  (H : Ev 5 28 4 [some (.ref 44), some (.int (J 0)), some (.int (J 0))] [] (hs E (jm N)) res) : Ev 5 28 0 [some (.ref 44), none, none] [] (hs E (jm N)) res := by
  refine w28_0 ?_
  exact Ev_to (clx (cli jl_0 (cli jl_0 rfl))) rfl rfl H
theorem v28_4 {E : gw_N} {N : NM} {res : Option Value × gw_H} {x1 : Int} {x2 : Int} (H : ((R (G40 N)) ∧ ((R x2) ∧ (((G40 N) ≤ x2 → res = (some (.int (J x1)), hs E (jm N))) ∧ (¬ (G40 N) ≤ x2 → ((Q29 N x2 0) ∧ ((Q206 N (G29 N x2 0)) ∧ ((Q29 N x2 1) ∧ ((Q206 N (G29 N x2 1)) ∧ Ev 5 28 4 [some (.ref 44), some (.int (J (x1 + ((G206 N (G29 N x2 0)) + (G206 N (G29 N x2 1)))))), some (.int (J (x2 + 1)))] [] (hs E (jm N)) res))))))))) : Ev 5 28 4 [some (.ref 44), some (.int (J x1)), some (.int (J x2))] [] (hs E (jm N)) res := by
  refine w28_4 ?_
  obtain ⟨q1, q2, H⟩ := H
  refine ⟨fun hc => ?_, fun hc => ?_⟩
  · replace H := H.1 ((le_J ((congrArg F40 rfl).trans (t40)) rfl q1 q2).mp hc)
    exact H.trans (rt_i rfl rfl)
  · replace H := H.2 (fun hz => hc ((le_J ((congrArg F40 rfl).trans (t40)) rfl q1 q2).mpr hz))
    obtain ⟨q3, H⟩ := H
    refine ⟨Eq.mpr (congr (congr (congrArg P29 rfl) rfl) jl_0) (p29 q3), ?_⟩
    obtain ⟨q4, H⟩ := H
    obtain ⟨q5, H⟩ := H
    refine ⟨Eq.mpr (congr (congr (congrArg P29 rfl) rfl) jl_1) (p29 q5), ?_⟩
    obtain ⟨q6, H⟩ := H
    exact Ev_to (clx (cli (add_J rfl (add_J ((congr (congrArg F206 rfl) ((congr (congr (congrArg F29 rfl) rfl) jl_0).trans (t29 q3))).trans (t206 q4)) ((congr (congrArg F206 rfl) ((congr (congr (congrArg F29 rfl) rfl) jl_1).trans (t29 q5))).trans (t206 q6)))) (cli (add_J rfl jl_1) rfl))) rfl rfl H
-- 73 GlassWires$Net edgesMeeting (II)I
theorem v73_0 {E : gw_N} {N : NM} {res : Option Value × gw_H} {x1 : Int} {x2 : Int} (H : Ev 5 73 5 [some (.ref 22), some (.int (J x1)), some (.int (J x2)), some (.int (J 0)), some (.int (J 0))] [] (hs E (jm N)) res) : Ev 5 73 0 [some (.ref 22), some (.int (J x1)), some (.int (J x2)), none, none] [] (hs E (jm N)) res := by
  refine w73_0 ?_
  exact Ev_to (clx (cli rfl (cli rfl (cli jl_0 (cli jl_0 rfl))))) rfl rfl H
theorem v73_5 {E : gw_N} {N : NM} {res : Option Value × gw_H} {x1 : Int} {x2 : Int} {x3 : Int} {x4 : Int} (H : ((R x4) ∧ (((4 : Int) ≤ x4 → res = (some (.int (J x3)), hs E (jm N))) ∧ (¬ (4 : Int) ≤ x4 → ((Q74 N x1 x2 x4) ∧ ((Q206 N (G74 N x1 x2 x4)) ∧ Ev 5 73 5 [some (.ref 22), some (.int (J x1)), some (.int (J x2)), some (.int (J (x3 + (G206 N (G74 N x1 x2 x4))))), some (.int (J (x4 + 1)))] [] (hs E (jm N)) res)))))) : Ev 5 73 5 [some (.ref 22), some (.int (J x1)), some (.int (J x2)), some (.int (J x3)), some (.int (J x4))] [] (hs E (jm N)) res := by
  refine w73_5 ?_
  obtain ⟨q1, H⟩ := H
  refine ⟨fun hc => ?_, fun hc => ?_⟩
  · replace H := H.1 ((le_J jl_4 rfl (by decide) q1).mp hc)
    exact H.trans (rt_i rfl rfl)
  · replace H := H.2 (fun hz => hc ((le_J jl_4 rfl (by decide) q1).mpr hz))
    obtain ⟨q2, H⟩ := H
    refine ⟨Eq.mpr (congr (congr (congr (congrArg P74 rfl) rfl) rfl) rfl) (p74 q2), ?_⟩
    obtain ⟨q3, H⟩ := H
    exact Ev_to (clx (cli rfl (cli rfl (cli (add_J rfl ((congr (congrArg F206 rfl) ((congr (congr (congr (congrArg F74 rfl) rfl) rfl) rfl).trans (t74 q2))).trans (t206 q3))) (cli (add_J rfl jl_1) rfl))))) rfl rfl H
-- 121 GlassWires$Rods fewest (LGlassWires$Wires;)I
theorem v121_0 {E : gw_N} {N : NM} {res : Option Value × gw_H}  (H : (∃ (r1 : Int) (N1 : NM), Rn 124 [.ref 54, .ref 14] (hs E (jm N)) (some (.int (J r1))) (hs E (jm N1)) ∧ ((R r1) ∧ (((1000000 : Int) ≤ r1 → res = (some (.int (J (-1))), hs E (jm N1))) ∧ (¬ (1000000 : Int) ≤ r1 → res = (some (.int (J (Int.tdiv r1 1000))), hs E (jm N1))))))) : Ev 5 121 0 [some (.ref 54), some (.ref 14), none] [] (hs E (jm N)) res := by
  refine w121_0 ?_
  obtain ⟨r1, N1, q2, H⟩ := H
  refine ⟨J r1, jm N1, Rn_to (clx (clx rfl)) rfl rfl q2, ?_⟩
  obtain ⟨q1, H⟩ := H
  refine ⟨fun hc => ?_, fun hc => ?_⟩
  · replace H := H.1 ((le_J jl_1000000 rfl (by decide) q1).mp hc)
    exact H.trans (rt_i jl_m1 rfl)
  · replace H := H.2 (fun hz => hc ((le_J jl_1000000 rfl (by decide) q1).mpr hz))
    exact H.trans (rt_i (div_J rfl jl_1000 q1 (by decide) (by decide)) rfl)
-- 122 GlassWires$Rods waste (LGlassWires$Wires;)I
theorem v122_0 {E : gw_N} {N : NM} {res : Option Value × gw_H}  (H : (∃ (r1 : Int) (N1 : NM), Rn 124 [.ref 54, .ref 14] (hs E (jm N)) (some (.int (J r1))) (hs E (jm N1)) ∧ ((R r1) ∧ (((1000000 : Int) ≤ r1 → res = (some (.int (J (-1))), hs E (jm N1))) ∧ (¬ (1000000 : Int) ≤ r1 → (∃ (r2 : Int), Rn 123 [.ref 14] (hs E (jm N1)) (some (.int (J r2))) (hs E (jm N1)) ∧ ((0 ≤ r2 ∧ r2 < 256) ∧ res = (some (.int (J ((Int.tmod r1 1000) - ((N1 57) r2)))), hs E (jm N1))))))))) : Ev 5 122 0 [some (.ref 54), some (.ref 14), none] [] (hs E (jm N)) res := by
  refine w122_0 ?_
  obtain ⟨r1, N1, q4, H⟩ := H
  refine ⟨J r1, jm N1, Rn_to (clx (clx rfl)) rfl rfl q4, ?_⟩
  obtain ⟨q1, H⟩ := H
  refine ⟨fun hc => ?_, fun hc => ?_⟩
  · replace H := H.1 ((le_J jl_1000000 rfl (by decide) q1).mp hc)
    exact H.trans (rt_i jl_m1 rfl)
  · replace H := H.2 (fun hz => hc ((le_J jl_1000000 rfl (by decide) q1).mpr hz))
    obtain ⟨r2, q3, H⟩ := H
    refine ⟨J r2, Rn_to (clx rfl) rfl rfl q3, ?_⟩
    obtain ⟨q2, H⟩ := H
    refine ⟨inb_J rfl q2 (by decide), ?_⟩
    exact H.trans (rt_i (sub_J (rem_J rfl jl_1000 q1 (by decide) (by decide)) (rd_J (jf_base _ _) rfl q2 (by decide))) rfl)
-- 134 GlassWires$Tension bent ()I
theorem v134_0 {E : gw_N} {N : NM} {res : Option Value × gw_H}  (H : ((Q104 N) ∧ ((R (G104 N)) ∧ (((G104 N) ≤ 0 → res = (some (.int (J 0)), hs E (jm N))) ∧ (¬ (G104 N) ≤ 0 → (∃ (r1 : Int), Rn 132 [.ref 53] (hs E (jm N)) (some (.int (J r1))) (hs E (jm N)) ∧ ((0 < (G104 N)) ∧ ((R r1) ∧ res = (some (.int (J (Int.tdiv r1 (G104 N)))), hs E (jm N)))))))))) : Ev 5 134 0 [some (.ref 53), none] [] (hs E (jm N)) res := by
  refine w134_0 ?_
  obtain ⟨q1, H⟩ := H
  refine ⟨Eq.mpr (congrArg P104 rfl) (p104 q1), ?_⟩
  obtain ⟨q2, H⟩ := H
  refine ⟨fun hc => ?_, fun hc => ?_⟩
  · replace H := H.1 ((le_J ((congrArg F104 rfl).trans (t104 q1)) jl_0 q2 (by decide)).mp hc)
    exact H.trans (rt_i jl_0 rfl)
  · replace H := H.2 (fun hz => hc ((le_J ((congrArg F104 rfl).trans (t104 q1)) jl_0 q2 (by decide)).mpr hz))
    obtain ⟨r1, q5, H⟩ := H
    refine ⟨J r1, Rn_to (clx rfl) rfl rfl q5, ?_⟩
    obtain ⟨q3, H⟩ := H
    refine ⟨nz_J ((congrArg F104 rfl).trans (t104 q1)) q2 q3, ?_⟩
    obtain ⟨q4, H⟩ := H
    exact H.trans (rt_i (div_J rfl ((congrArg F104 rfl).trans (t104 q1)) q4 q2 q3) rfl)
-- 136 GlassWires$Tension strainOf (I)I
theorem v136_0 {E : gw_N} {N : NM} {res : Option Value × gw_H} {x1 : Int} (H : (∃ (r1 : Int), Rn 132 [.ref 53] (hs E (jm N)) (some (.int (J r1))) (hs E (jm N)) ∧ ((Q310 N r1) ∧ ((R (x1 * (G310 N r1))) ∧ res = (some (.int (J (Int.tdiv (x1 * (G310 N r1)) 1000))), hs E (jm N)))))) : Ev 5 136 0 [some (.ref 53), some (.int (J x1))] [] (hs E (jm N)) res := by
  refine w136_0 ?_
  obtain ⟨r1, q3, H⟩ := H
  refine ⟨J r1, Rn_to (clx rfl) rfl rfl q3, ?_⟩
  obtain ⟨q1, H⟩ := H
  obtain ⟨q2, H⟩ := H
  exact H.trans (rt_i (div_J (mul_J rfl ((congr (congrArg F310 rfl) rfl).trans (t310 q1))) jl_1000 q2 (by decide) (by decide)) rfl)
-- 137 GlassWires$Tension longestStep (I)I
theorem v137_0 {E : gw_N} {N : NM} {res : Option Value × gw_H} {x1 : Int} (H : (∃ (r1 : Int), Rn 132 [.ref 53] (hs E (jm N)) (some (.int (J r1))) (hs E (jm N)) ∧ ((Q310 N r1) ∧ ((R (G310 N r1)) ∧ (((G310 N r1) = 0 → res = (some (.int (J x1)), hs E (jm N))) ∧ (¬ (G310 N r1) = 0 → ((Q105 N) ∧ ((0 < (G310 N r1)) ∧ ((R ((1000 * ((G105 N) + 1)) - 1)) ∧ ((Q312 N x1 (Int.tdiv ((1000 * ((G105 N) + 1)) - 1) (G310 N r1))) ∧ res = (some (.int (J (G312 N x1 (Int.tdiv ((1000 * ((G105 N) + 1)) - 1) (G310 N r1))))), hs E (jm N)))))))))))) : Ev 5 137 0 [some (.ref 53), some (.int (J x1)), none] [] (hs E (jm N)) res := by
  refine w137_0 ?_
  obtain ⟨r1, q7, H⟩ := H
  refine ⟨J r1, Rn_to (clx rfl) rfl rfl q7, ?_⟩
  obtain ⟨q1, H⟩ := H
  obtain ⟨q2, H⟩ := H
  refine ⟨fun hc => ?_, fun hc => ?_⟩
  · replace H := H.1 ((eq_J ((congr (congrArg F310 rfl) rfl).trans (t310 q1)) jl_0 q2 (by decide)).mp hc)
    exact H.trans (rt_i rfl rfl)
  · replace H := H.2 (fun hz => hc ((eq_J ((congr (congrArg F310 rfl) rfl).trans (t310 q1)) jl_0 q2 (by decide)).mpr hz))
    obtain ⟨q3, H⟩ := H
    refine ⟨Eq.mpr (congrArg P105 rfl) (p105 q3), ?_⟩
    obtain ⟨q4, H⟩ := H
    refine ⟨nz_J ((congr (congrArg F310 rfl) rfl).trans (t310 q1)) q2 q4, ?_⟩
    obtain ⟨q5, q6, H⟩ := H
    exact H.trans (rt_i ((congr (congr (congrArg F312 rfl) rfl) (div_J (sub_J (mul_J jl_1000 (add_J ((congrArg F105 rfl).trans (t105 q3)) jl_1)) jl_1) ((congr (congrArg F310 rfl) rfl).trans (t310 q1)) q5 q2 q4)).trans (t312 q6)) rfl)
