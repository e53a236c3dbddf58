/-! by program (wpz.py): the formulas over the integers -/
-- 281 GlassWiresModel findPlan (I)V
theorem v281_0 {E : gw_N} {N : NM} {res : Option Value × gw_H} {x1 : Int} (H : Ev 2 281 9 [some (.ref 59), some (.int (J x1)), some (.int (J 0)), some (.int (J 0)), none, none, none] [] (hs E (jm (upZ N 59 (updZ (N 59) 33 0)))) res) : Ev 2 281 0 [some (.ref 59), some (.int (J x1)), none, none, none, none, none] [] (hs E (jm N)) res := by
  refine w281_0 ?_
  exact Ev_to (clx (cli rfl (cli jl_0 (cli jl_0 (clx (clx (clx rfl))))))) rfl (jm_up rfl (jf_updk (jf_base _ _) jl_0)) H
theorem v281_9 {E : gw_N} {N : NM} {res : Option Value × gw_H} {x1 : Int} {x2 : Int} {x3 : Int} (H : ((R x3) ∧ (((8 : Int) ≤ x3 → res = (none, hs E (jm N))) ∧ (¬ (8 : Int) ≤ x3 → Ev 2 281 22 [some (.ref 59), some (.int (J x1)), some (.int (J x2)), some (.int (J x3)), some (.int (J (-1))), some (.int (J 7)), none] [] (hs E (jm N)) res)))) : Ev 2 281 9 [some (.ref 59), some (.int (J x1)), some (.int (J x2)), some (.int (J x3)), none, none, none] [] (hs E (jm N)) res := by
  refine w281_9 ?_
  obtain ⟨q1, H⟩ := H
  refine ⟨fun hc => ?_, fun hc => ?_⟩
  · replace H := H.1 ((le_J jl_8 rfl (by decide) q1).mp hc)
    exact H.trans (rt_n rfl)
  · replace H := H.2 (fun hz => hc ((le_J jl_8 rfl (by decide) q1).mpr hz))
    exact Ev_to (clx (cli rfl (cli rfl (cli rfl (cli jl_m1 (cli jl_7 (clx rfl))))))) rfl rfl H
theorem v281_22 {E : gw_N} {N : NM} {res : Option Value × gw_H} {x1 : Int} {x2 : Int} {x3 : Int} {x4 : Int} {x5 : Int} (H : ((R x5) ∧ ((x5 < 0 → ((R x4) ∧ ((x4 = (-1) → Ev 2 281 9 [some (.ref 59), some (.int (J x1)), some (.int (J x2)), some (.int (J (x3 + 1))), none, none, none] [] (hs E (jm N)) res) ∧ (¬ x4 = (-1) → Ev 2 281 115 [some (.ref 59), some (.int (J x1)), some (.int (J (zor x2 (zshl 1 x4)))), some (.int (J x3)), some (.int (J x4)), some (.int (J 0)), some (.int (J 0))] [] (hs E (jm N)) res)))) ∧ (¬ x5 < 0 → (((zand (zshr x1 x5) 1) = 1 → (((zand (zshr x2 x5) 1) = 0 → ((R x4) ∧ ((x4 = (-1) → Ev 2 281 22 [some (.ref 59), some (.int (J x1)), some (.int (J x2)), some (.int (J x3)), some (.int (J x5)), some (.int (J (x5 + (-1)))), none] [] (hs E (jm N)) res) ∧ (¬ x4 = (-1) → ((0 ≤ x5 ∧ x5 < 8) ∧ ((0 ≤ x4 ∧ x4 < 8) ∧ ((R ((N 73) x4)) ∧ ((R ((N 73) x5)) ∧ ((((N 73) x4) < ((N 73) x5) → Ev 2 281 22 [some (.ref 59), some (.int (J x1)), some (.int (J x2)), some (.int (J x3)), some (.int (J x4)), some (.int (J (x5 + (-1)))), none] [] (hs E (jm N)) res) ∧ (¬ ((N 73) x4) < ((N 73) x5) → Ev 2 281 22 [some (.ref 59), some (.int (J x1)), some (.int (J x2)), some (.int (J x3)), some (.int (J x5)), some (.int (J (x5 + (-1)))), none] [] (hs E (jm N)) res)))))))))) ∧ (¬ (zand (zshr x2 x5) 1) = 0 → Ev 2 281 22 [some (.ref 59), some (.int (J x1)), some (.int (J x2)), some (.int (J x3)), some (.int (J x4)), some (.int (J (x5 + (-1)))), none] [] (hs E (jm N)) res))) ∧ (¬ (zand (zshr x1 x5) 1) = 1 → Ev 2 281 22 [some (.ref 59), some (.int (J x1)), some (.int (J x2)), some (.int (J x3)), some (.int (J x4)), some (.int (J (x5 + (-1)))), none] [] (hs E (jm N)) res)))))) : Ev 2 281 22 [some (.ref 59), some (.int (J x1)), some (.int (J x2)), some (.int (J x3)), some (.int (J x4)), some (.int (J x5)), none] [] (hs E (jm N)) res := by
  refine w281_22 ?_
  obtain ⟨q1, H⟩ := H
  refine ⟨fun hc => ?_, fun hc => ?_⟩
  · replace H := H.1 ((lt_J rfl jl_0 q1 (by decide)).mp hc)
    obtain ⟨q2, H⟩ := H
    refine ⟨fun hc => ?_, fun hc => ?_⟩
    · replace H := H.1 ((eq_J rfl jl_m1 q2 (by decide)).mp hc)
      exact Ev_to (clx (cli rfl (cli rfl (cli (add_J rfl jl_1) (clx (clx (clx rfl))))))) rfl rfl H
    · replace H := H.2 (fun hz => hc ((eq_J rfl jl_m1 q2 (by decide)).mpr hz))
      exact Ev_to (clx (cli rfl (cli (zor_J rfl (zshl_J jl_1 rfl)) (cli rfl (cli rfl (cli jl_0 (cli jl_0 rfl))))))) rfl rfl H
  · replace H := H.2 (fun hz => hc ((lt_J rfl jl_0 q1 (by decide)).mpr hz))
    refine ⟨fun hc => ?_, fun hc => ?_⟩
    · replace H := H.1 ((eq_J (zand_J (zshr_J rfl rfl) jl_1) jl_1 (R_toInt _) (by decide)).mp hc)
      refine ⟨fun hc => ?_, fun hc => ?_⟩
      · replace H := H.1 ((eq_J (zand_J (zshr_J rfl rfl) jl_1) jl_0 (R_toInt _) (by decide)).mp hc)
        obtain ⟨q3, H⟩ := H
        refine ⟨fun hc => ?_, fun hc => ?_⟩
        · replace H := H.1 ((eq_J rfl jl_m1 q3 (by decide)).mp hc)
          exact Ev_to (clx (cli rfl (cli rfl (cli rfl (cli rfl (cli (add_J rfl jl_m1) (clx rfl))))))) rfl rfl H
        · replace H := H.2 (fun hz => hc ((eq_J rfl jl_m1 q3 (by decide)).mpr hz))
          obtain ⟨q4, H⟩ := H
          refine ⟨inb_J rfl q4 (by decide), ?_⟩
          obtain ⟨q5, H⟩ := H
          refine ⟨inb_J rfl q5 (by decide), ?_⟩
          obtain ⟨q6, q7, H⟩ := H
          refine ⟨fun hc => ?_, fun hc => ?_⟩
          · replace H := H.1 ((lt_J (rd_J (jf_base _ _) rfl q5 (by decide)) (rd_J (jf_base _ _) rfl q4 (by decide)) q6 q7).mp hc)
            exact Ev_to (clx (cli rfl (cli rfl (cli rfl (cli rfl (cli (add_J rfl jl_m1) (clx rfl))))))) rfl rfl H
          · replace H := H.2 (fun hz => hc ((lt_J (rd_J (jf_base _ _) rfl q5 (by decide)) (rd_J (jf_base _ _) rfl q4 (by decide)) q6 q7).mpr hz))
            exact Ev_to (clx (cli rfl (cli rfl (cli rfl (cli rfl (cli (add_J rfl jl_m1) (clx rfl))))))) rfl rfl H
      · replace H := H.2 (fun hz => hc ((eq_J (zand_J (zshr_J rfl rfl) jl_1) jl_0 (R_toInt _) (by decide)).mpr hz))
        exact Ev_to (clx (cli rfl (cli rfl (cli rfl (cli rfl (cli (add_J rfl jl_m1) (clx rfl))))))) rfl rfl H
    · replace H := H.2 (fun hz => hc ((eq_J (zand_J (zshr_J rfl rfl) jl_1) jl_1 (R_toInt _) (by decide)).mpr hz))
      exact Ev_to (clx (cli rfl (cli rfl (cli rfl (cli rfl (cli (add_J rfl jl_m1) (clx rfl))))))) rfl rfl H
theorem v281_115 {E : gw_N} {N : NM} {res : Option Value × gw_H} {x1 : Int} {x2 : Int} {x3 : Int} {x4 : Int} {x5 : Int} {x6 : Int} (H : ((R ((N 59) 33)) ∧ ((R x6) ∧ ((((N 59) 33) ≤ x6 → Ev 2 281 177 [some (.ref 59), some (.int (J x1)), some (.int (J x2)), some (.int (J x3)), some (.int (J x4)), none, some (.int (J x5))] [] (hs E (jm N)) res) ∧ (¬ ((N 59) 33) ≤ x6 → ((0 ≤ x6 ∧ x6 < 900) ∧ ((0 ≤ x4 ∧ x4 < 8) ∧ ((R ((N 83) x6)) ∧ ((R ((N 73) x4)) ∧ ((R (((N 73) x4) + 50)) ∧ (((if ((N 73) x4) ≤ ((N 83) x6) ∧ ((N 83) x6) ≤ (((N 73) x4) + 50) then (1 : Int) else 0) = 0 → Ev 2 281 115 [some (.ref 59), some (.int (J x1)), some (.int (J x2)), some (.int (J x3)), some (.int (J x4)), some (.int (J (x5 + 0))), some (.int (J (x6 + 1)))] [] (hs E (jm N)) res) ∧ (¬ (if ((N 73) x4) ≤ ((N 83) x6) ∧ ((N 83) x6) ≤ (((N 73) x4) + 50) then (1 : Int) else 0) = 0 → Ev 2 281 115 [some (.ref 59), some (.int (J x1)), some (.int (J x2)), some (.int (J x3)), some (.int (J x4)), some (.int (J (x5 + 1))), some (.int (J (x6 + 1)))] [] (hs E (jm N)) res)))))))))))) : Ev 2 281 115 [some (.ref 59), some (.int (J x1)), some (.int (J x2)), some (.int (J x3)), some (.int (J x4)), some (.int (J x5)), some (.int (J x6))] [] (hs E (jm N)) res := by
  refine w281_115 ?_
  obtain ⟨q1, q2, H⟩ := H
  refine ⟨fun hc => ?_, fun hc => ?_⟩
  · replace H := H.1 ((le_J (fld_J (jf_base _ _)) rfl q1 q2).mp hc)
    exact Ev_to (clx (cli rfl (cli rfl (cli rfl (cli rfl (clx (cli rfl rfl))))))) rfl rfl H
  · replace H := H.2 (fun hz => hc ((le_J (fld_J (jf_base _ _)) rfl q1 q2).mpr hz))
    obtain ⟨q3, H⟩ := H
    refine ⟨inb_J rfl q3 (by decide), ?_⟩
    obtain ⟨q4, H⟩ := H
    refine ⟨inb_J rfl q4 (by decide), ?_⟩
    refine ⟨inb_J rfl q4 (by decide), ?_⟩
    obtain ⟨q5, q6, q7, H⟩ := H
    refine ⟨fun hc => ?_, fun hc => ?_⟩
    · replace H := H.1 ((eq_J (in_J (congrArg Int32.toInt64 (rd_J (jf_base _ _) rfl q3 (by decide))) (congrArg Int32.toInt64 (rd_J (jf_base _ _) rfl q4 (by decide))) (congrArg Int32.toInt64 (add_J (rd_J (jf_base _ _) rfl q4 (by decide)) jl_50)) q5 q6 q7) jl_0 R_in (by decide)).mp hc)
      exact Ev_to (clx (cli rfl (cli rfl (cli rfl (cli rfl (cli (add_J rfl jl_0) (cli (add_J rfl jl_1) rfl))))))) rfl rfl H
    · replace H := H.2 (fun hz => hc ((eq_J (in_J (congrArg Int32.toInt64 (rd_J (jf_base _ _) rfl q3 (by decide))) (congrArg Int32.toInt64 (rd_J (jf_base _ _) rfl q4 (by decide))) (congrArg Int32.toInt64 (add_J (rd_J (jf_base _ _) rfl q4 (by decide)) jl_50)) q5 q6 q7) jl_0 R_in (by decide)).mpr hz))
      exact Ev_to (clx (cli rfl (cli rfl (cli rfl (cli rfl (cli (add_J rfl jl_1) (cli (add_J rfl jl_1) rfl))))))) rfl rfl H
theorem v281_177 {E : gw_N} {N : NM} {res : Option Value × gw_H} {x1 : Int} {x2 : Int} {x3 : Int} {x4 : Int} {x6 : Int} (H : (∃ (r1 : Int), Rn 279 [.ref 59, .int (J x4)] (hs E (jm N)) (some (.int (J r1))) (hs E (jm N)) ∧ ((R r1) ∧ ((R x6) ∧ ((r1 ≤ x6 → Ev 2 281 9 [some (.ref 59), some (.int (J x1)), some (.int (J x2)), some (.int (J (x3 + 1))), none, none, none] [] (hs E (jm N)) res) ∧ (¬ r1 ≤ x6 → ((0 ≤ x4 ∧ x4 < 8) ∧ ((0 ≤ ((N 59) 33) ∧ ((N 59) 33) < 900) ∧ Ev 2 281 177 [some (.ref 59), some (.int (J x1)), some (.int (J x2)), some (.int (J x3)), some (.int (J x4)), none, some (.int (J (x6 + 1)))] [] (hs E (jm (upZ (upZ N 83 (updZ (N 83) ((N 59) 33) (((N 73) x4) + 50))) 59 (updZ (N 59) 33 (((N 59) 33) + 1))))) res)))))))) : Ev 2 281 177 [some (.ref 59), some (.int (J x1)), some (.int (J x2)), some (.int (J x3)), some (.int (J x4)), none, some (.int (J x6))] [] (hs E (jm N)) res := by
  refine w281_177 ?_
  obtain ⟨r1, q5, H⟩ := H
  refine ⟨J r1, Rn_to (clx (cai rfl rfl)) rfl rfl q5, ?_⟩
  obtain ⟨q1, q2, H⟩ := H
  refine ⟨fun hc => ?_, fun hc => ?_⟩
  · replace H := H.1 ((le_J rfl rfl q1 q2).mp hc)
    exact Ev_to (clx (cli rfl (cli rfl (cli (add_J rfl jl_1) (clx (clx (clx rfl))))))) rfl rfl H
  · replace H := H.2 (fun hz => hc ((le_J rfl rfl q1 q2).mpr hz))
    obtain ⟨q3, H⟩ := H
    refine ⟨inb_J rfl q3 (by decide), ?_⟩
    obtain ⟨q4, H⟩ := H
    refine ⟨inb_J (fld_J (jf_base _ _)) q4 (by decide), ?_⟩
    exact Ev_to (clx (cli rfl (cli rfl (cli rfl (cli rfl (clx (cli (add_J rfl jl_1) rfl))))))) rfl (jm_up (jm_up rfl (jf_upd (jf_base _ _) (fld_J (jf_base _ _)) q4 (by decide) (add_J (rd_J (jf_base _ _) rfl q3 (by decide)) jl_50))) (jf_updk (jf_base _ _) (add_J (fld_J (jf_base _ _)) jl_1))) H
-- 285 GlassWiresModel frontPull ()I
theorem v285_0 {E : gw_N} {N : NM} {res : Option Value × gw_H}  (H : Ev 2 285 4 [some (.ref 59), some (.int (J 0)), some (.int (J 0)), none, none] [] (hs E (jm N)) res) : Ev 2 285 0 [some (.ref 59), none, none, none, none] [] (hs E (jm N)) res := by
  refine w285_0 ?_
  exact Ev_to (clx (cli jl_0 (cli jl_0 (clx (clx rfl))))) rfl rfl H
theorem v285_4 {E : gw_N} {N : NM} {res : Option Value × gw_H} {x1 : Int} {x2 : Int} (H : ((R (G243 N)) ∧ ((R x2) ∧ (((G243 N) ≤ x2 → res = (some (.int (J x1)), hs E (jm N))) ∧ (¬ (G243 N) ≤ x2 → Ev 2 285 14 [some (.ref 59), some (.int (J x1)), some (.int (J x2)), some (.int (J 0)), none] [] (hs E (jm N)) res))))) : Ev 2 285 4 [some (.ref 59), some (.int (J x1)), some (.int (J x2)), none, none] [] (hs E (jm N)) res := by
  refine w285_4 ?_
  obtain ⟨q1, q2, H⟩ := H
  refine ⟨fun hc => ?_, fun hc => ?_⟩
  · replace H := H.1 ((le_J ((congrArg F243 rfl).trans (t243)) rfl q1 q2).mp hc)
    exact H.trans (rt_i rfl rfl)
  · replace H := H.2 (fun hz => hc ((le_J ((congrArg F243 rfl).trans (t243)) rfl q1 q2).mpr hz))
    exact Ev_to (clx (cli rfl (cli rfl (cli jl_0 (clx rfl))))) rfl rfl H
theorem v285_14 {E : gw_N} {N : NM} {res : Option Value × gw_H} {x1 : Int} {x2 : Int} {x3 : Int} (H : ((0 ≤ x2 ∧ x2 < 64) ∧ ((R ((N 77) x2)) ∧ ((R x3) ∧ ((((N 77) x2) ≤ x3 → Ev 2 285 4 [some (.ref 59), some (.int (J x1)), some (.int (J (x2 + 1))), none, none] [] (hs E (jm N)) res) ∧ (¬ ((N 77) x2) ≤ x3 → ((0 ≤ ((12 * x2) + x3) ∧ ((12 * x2) + x3) < 768) ∧ ((R ((N 80) ((12 * x2) + x3))) ∧ ((((N 80) ((12 * x2) + x3)) ≤ 0 → Ev 2 285 14 [some (.ref 59), some (.int (J (x1 + 0))), some (.int (J x2)), some (.int (J (x3 + 1))), none] [] (hs E (jm N)) res) ∧ (¬ ((N 80) ((12 * x2) + x3)) ≤ 0 → ((0 ≤ ((N 78) ((12 * x2) + x3)) ∧ ((N 78) ((12 * x2) + x3)) < 8) ∧ Ev 2 285 14 [some (.ref 59), some (.int (J (x1 + (((N 79) ((12 * x2) + x3)) * ((N 75) ((N 78) ((12 * x2) + x3))))))), some (.int (J x2)), some (.int (J (x3 + 1))), none] [] (hs E (jm N)) res))))))))))) : Ev 2 285 14 [some (.ref 59), some (.int (J x1)), some (.int (J x2)), some (.int (J x3)), none] [] (hs E (jm N)) res := by
  refine w285_14 ?_
  obtain ⟨q1, H⟩ := H
  refine ⟨inb_J rfl q1 (by decide), ?_⟩
  obtain ⟨q2, q3, H⟩ := H
  refine ⟨fun hc => ?_, fun hc => ?_⟩
  · replace H := H.1 ((le_J (rd_J (jf_base _ _) rfl q1 (by decide)) rfl q2 q3).mp hc)
    exact Ev_to (clx (cli rfl (cli (add_J rfl jl_1) (clx (clx rfl))))) rfl rfl H
  · replace H := H.2 (fun hz => hc ((le_J (rd_J (jf_base _ _) rfl q1 (by decide)) rfl q2 q3).mpr hz))
    obtain ⟨q4, H⟩ := H
    refine ⟨inb_J (add_J (mul_J jl_12 rfl) rfl) q4 (by decide), ?_⟩
    obtain ⟨q5, H⟩ := H
    refine ⟨fun hc => ?_, fun hc => ?_⟩
    · replace H := H.1 ((le_J (rd_J (jf_base _ _) (add_J (mul_J jl_12 rfl) rfl) q4 (by decide)) jl_0 q5 (by decide)).mp hc)
      exact Ev_to (clx (cli (add_J rfl jl_0) (cli rfl (cli (add_J rfl jl_1) (clx rfl))))) rfl rfl H
    · replace H := H.2 (fun hz => hc ((le_J (rd_J (jf_base _ _) (add_J (mul_J jl_12 rfl) rfl) q4 (by decide)) jl_0 q5 (by decide)).mpr hz))
      refine ⟨inb_J (add_J (mul_J jl_12 rfl) rfl) q4 (by decide), ?_⟩
      refine ⟨inb_J (add_J (mul_J jl_12 rfl) rfl) q4 (by decide), ?_⟩
      obtain ⟨q6, H⟩ := H
      refine ⟨inb_J (rd_J (jf_base _ _) (add_J (mul_J jl_12 rfl) rfl) q4 (by decide)) q6 (by decide), ?_⟩
      exact Ev_to (clx (cli (add_J rfl (mul_J (rd_J (jf_base _ _) (add_J (mul_J jl_12 rfl) rfl) q4 (by decide)) (rd_J (jf_base _ _) (rd_J (jf_base _ _) (add_J (mul_J jl_12 rfl) rfl) q4 (by decide)) q6 (by decide)))) (cli rfl (cli (add_J rfl jl_1) (clx rfl))))) rfl rfl H
-- 297 GlassWiresModel isHarmed (II)Z
theorem v297_0 {E : gw_N} {N : NM} {res : Option Value × gw_H} {x1 : Int} {x2 : Int} (H : Ev 2 297 5 [some (.ref 59), some (.int (J x1)), some (.int (J x2)), some (.int (J 0)), some (.int (J 0))] [] (hs E (jm N)) res) : Ev 2 297 0 [some (.ref 59), some (.int (J x1)), some (.int (J x2)), none, none] [] (hs E (jm N)) res := by
  refine w297_0 ?_
  exact Ev_to (clx (cli rfl (cli rfl (cli jl_0 (cli jl_0 rfl))))) rfl rfl H
theorem v297_5 {E : gw_N} {N : NM} {res : Option Value × gw_H} {x1 : Int} {x2 : Int} {x3 : Int} {x4 : Int} (H : ((R (G243 N)) ∧ ((R x4) ∧ (((G243 N) ≤ x4 → ((x3 = 0 ∨ x3 = 1) ∧ res = (some (.int (J x3)), hs E (jm N)))) ∧ (¬ (G243 N) ≤ x4 → ((R x3) ∧ ((x3 = 0 → ((0 ≤ x4 ∧ x4 < 64) ∧ ((R ((N 69) x4)) ∧ ((R x1) ∧ ((((N 69) x4) = x1 → ((R ((N 77) x4)) ∧ ((((N 77) x4) ≤ 0 → Ev 2 297 5 [some (.ref 59), some (.int (J x1)), some (.int (J x2)), some (.int (J 0)), some (.int (J (x4 + 1)))] [] (hs E (jm N)) res) ∧ (¬ ((N 77) x4) ≤ 0 → ((Q276 N x4) ∧ ((0 ≤ (G276 N x4) ∧ (G276 N x4) < 768) ∧ ((R ((N 80) (G276 N x4))) ∧ ((((N 80) (G276 N x4)) = 1 → ((0 ≤ ((N 78) (G276 N x4)) ∧ ((N 78) (G276 N x4)) < 8) ∧ ((R x2) ∧ ((R (((N 73) ((N 78) (G276 N x4))) + 50)) ∧ ((x2 ≤ (((N 73) ((N 78) (G276 N x4))) + 50) → Ev 2 297 5 [some (.ref 59), some (.int (J x1)), some (.int (J x2)), some (.int (J 0)), some (.int (J (x4 + 1)))] [] (hs E (jm N)) res) ∧ (¬ x2 ≤ (((N 73) ((N 78) (G276 N x4))) + 50) → Ev 2 297 5 [some (.ref 59), some (.int (J x1)), some (.int (J x2)), some (.int (J 1)), some (.int (J (x4 + 1)))] [] (hs E (jm N)) res)))))) ∧ (¬ ((N 80) (G276 N x4)) = 1 → Ev 2 297 5 [some (.ref 59), some (.int (J x1)), some (.int (J x2)), some (.int (J 0)), some (.int (J (x4 + 1)))] [] (hs E (jm N)) res))))))))) ∧ (¬ ((N 69) x4) = x1 → Ev 2 297 5 [some (.ref 59), some (.int (J x1)), some (.int (J x2)), some (.int (J 0)), some (.int (J (x4 + 1)))] [] (hs E (jm N)) res)))))) ∧ (¬ x3 = 0 → Ev 2 297 5 [some (.ref 59), some (.int (J x1)), some (.int (J x2)), some (.int (J 1)), some (.int (J (x4 + 1)))] [] (hs E (jm N)) res)))))))) : Ev 2 297 5 [some (.ref 59), some (.int (J x1)), some (.int (J x2)), some (.int (J x3)), some (.int (J x4))] [] (hs E (jm N)) res := by
  refine w297_5 ?_
  obtain ⟨q1, q2, H⟩ := H
  refine ⟨fun hc => ?_, fun hc => ?_⟩
  · replace H := H.1 ((le_J ((congrArg F243 rfl).trans (t243)) rfl q1 q2).mp hc)
    obtain ⟨q3, H⟩ := H
    refine ⟨bb_J rfl q3, ?_⟩
    exact H.trans (rt_i rfl rfl)
  · replace H := H.2 (fun hz => hc ((le_J ((congrArg F243 rfl).trans (t243)) rfl q1 q2).mpr hz))
    obtain ⟨q4, H⟩ := H
    refine ⟨fun hc => ?_, fun hc => ?_⟩
    · replace H := H.1 ((eq_J rfl jl_0 q4 (by decide)).mp hc)
      obtain ⟨q5, H⟩ := H
      refine ⟨inb_J rfl q5 (by decide), ?_⟩
      obtain ⟨q6, q7, H⟩ := H
      refine ⟨fun hc => ?_, fun hc => ?_⟩
      · replace H := H.1 ((eq_J (rd_J (jf_base _ _) rfl q5 (by decide)) rfl q6 q7).mp hc)
        refine ⟨inb_J rfl q5 (by decide), ?_⟩
        obtain ⟨q8, H⟩ := H
        refine ⟨fun hc => ?_, fun hc => ?_⟩
        · replace H := H.1 ((le_J (rd_J (jf_base _ _) rfl q5 (by decide)) jl_0 q8 (by decide)).mp hc)
          exact Ev_to (clx (cli rfl (cli rfl (cli jl_0 (cli (add_J rfl jl_1) rfl))))) rfl rfl H
        · replace H := H.2 (fun hz => hc ((le_J (rd_J (jf_base _ _) rfl q5 (by decide)) jl_0 q8 (by decide)).mpr hz))
          obtain ⟨q9, H⟩ := H
          refine ⟨Eq.mpr (congr (congrArg P276 rfl) rfl) (p276 q9), ?_⟩
          obtain ⟨q10, H⟩ := H
          refine ⟨inb_J ((congr (congrArg F276 rfl) rfl).trans (t276 q9)) q10 (by decide), ?_⟩
          obtain ⟨q11, H⟩ := H
          refine ⟨fun hc => ?_, fun hc => ?_⟩
          · replace H := H.1 ((eq_J (rd_J (jf_base _ _) ((congr (congrArg F276 rfl) rfl).trans (t276 q9)) q10 (by decide)) jl_1 q11 (by decide)).mp hc)
            refine ⟨Eq.mpr (congr (congrArg P276 rfl) rfl) (p276 q9), ?_⟩
            refine ⟨inb_J ((congr (congrArg F276 rfl) rfl).trans (t276 q9)) q10 (by decide), ?_⟩
            obtain ⟨q12, H⟩ := H
            refine ⟨inb_J (rd_J (jf_base _ _) ((congr (congrArg F276 rfl) rfl).trans (t276 q9)) q10 (by decide)) q12 (by decide), ?_⟩
            obtain ⟨q13, q14, H⟩ := H
            refine ⟨fun hc => ?_, fun hc => ?_⟩
            · replace H := H.1 ((le_J rfl (add_J (rd_J (jf_base _ _) (rd_J (jf_base _ _) ((congr (congrArg F276 rfl) rfl).trans (t276 q9)) q10 (by decide)) q12 (by decide)) jl_50) q13 q14).mp hc)
              exact Ev_to (clx (cli rfl (cli rfl (cli jl_0 (cli (add_J rfl jl_1) rfl))))) rfl rfl H
            · replace H := H.2 (fun hz => hc ((le_J rfl (add_J (rd_J (jf_base _ _) (rd_J (jf_base _ _) ((congr (congrArg F276 rfl) rfl).trans (t276 q9)) q10 (by decide)) q12 (by decide)) jl_50) q13 q14).mpr hz))
              exact Ev_to (clx (cli rfl (cli rfl (cli jl_1 (cli (add_J rfl jl_1) rfl))))) rfl rfl H
          · replace H := H.2 (fun hz => hc ((eq_J (rd_J (jf_base _ _) ((congr (congrArg F276 rfl) rfl).trans (t276 q9)) q10 (by decide)) jl_1 q11 (by decide)).mpr hz))
            exact Ev_to (clx (cli rfl (cli rfl (cli jl_0 (cli (add_J rfl jl_1) rfl))))) rfl rfl H
      · replace H := H.2 (fun hz => hc ((eq_J (rd_J (jf_base _ _) rfl q5 (by decide)) rfl q6 q7).mpr hz))
        exact Ev_to (clx (cli rfl (cli rfl (cli jl_0 (cli (add_J rfl jl_1) rfl))))) rfl rfl H
    · replace H := H.2 (fun hz => hc ((eq_J rfl jl_0 q4 (by decide)).mpr hz))
      exact Ev_to (clx (cli rfl (cli rfl (cli jl_1 (cli (add_J rfl jl_1) rfl))))) rfl rfl H
-- 301 GlassWiresModel rod (II)I
theorem v301_0 {E : gw_N} {N : NM} {res : Option Value × gw_H} {x1 : Int} {x2 : Int} (H : ((R x1) ∧ (((if 1 ≤ x1 ∧ x1 ≤ 99 then (1 : Int) else 0) = 0 → res = (some (.int (J (-102))), hs E (jm N))) ∧ (¬ (if 1 ≤ x1 ∧ x1 ≤ 99 then (1 : Int) else 0) = 0 → ((R x2) ∧ (((if 0 ≤ x2 ∧ x2 ≤ 20 then (1 : Int) else 0) = 0 → res = (some (.int (J (-102))), hs E (jm N))) ∧ (¬ (if 0 ≤ x2 ∧ x2 ≤ 20 then (1 : Int) else 0) = 0 → ((R ((N 59) 36)) ∧ ((((N 59) 36) = 8 → res = (some (.int (J (-104))), hs E (jm N))) ∧ (¬ ((N 59) 36) = 8 → ((0 ≤ ((N 59) 36) ∧ ((N 59) 36) < 8) ∧ res = (some (.int (J (((updZ (N 59) 36 (((N 59) 36) + 1)) 36) - 1))), hs E (jm (upZ (upZ (upZ N 84 (updZ (N 84) ((N 59) 36) x1)) 85 (updZ (N 85) ((N 59) 36) x2)) 59 (updZ (N 59) 36 (((N 59) 36) + 1)))))))))))))))) : Ev 2 301 0 [some (.ref 59), some (.int (J x1)), some (.int (J x2))] [] (hs E (jm N)) res := by
  refine w301_0 ?_
  obtain ⟨q1, H⟩ := H
  refine ⟨fun hc => ?_, fun hc => ?_⟩
  · replace H := H.1 ((eq_J (in_J (congrArg Int32.toInt64 rfl) ll_1 ll_99 q1 (by decide) (by decide)) jl_0 R_in (by decide)).mp hc)
    exact H.trans (rt_i jl_m102 rfl)
  · replace H := H.2 (fun hz => hc ((eq_J (in_J (congrArg Int32.toInt64 rfl) ll_1 ll_99 q1 (by decide) (by decide)) jl_0 R_in (by decide)).mpr hz))
    obtain ⟨q2, H⟩ := H
    refine ⟨fun hc => ?_, fun hc => ?_⟩
    · replace H := H.1 ((eq_J (in_J (congrArg Int32.toInt64 rfl) ll_0 ll_20 q2 (by decide) (by decide)) jl_0 R_in (by decide)).mp hc)
      exact H.trans (rt_i jl_m102 rfl)
    · replace H := H.2 (fun hz => hc ((eq_J (in_J (congrArg Int32.toInt64 rfl) ll_0 ll_20 q2 (by decide) (by decide)) jl_0 R_in (by decide)).mpr hz))
      obtain ⟨q3, H⟩ := H
      refine ⟨fun hc => ?_, fun hc => ?_⟩
      · replace H := H.1 ((eq_J (fld_J (jf_base _ _)) jl_8 q3 (by decide)).mp hc)
        exact H.trans (rt_i jl_m104 rfl)
      · replace H := H.2 (fun hz => hc ((eq_J (fld_J (jf_base _ _)) jl_8 q3 (by decide)).mpr hz))
        obtain ⟨q4, H⟩ := H
        refine ⟨inb_J (fld_J (jf_base _ _)) q4 (by decide), ?_⟩
        refine ⟨inb_J (fld_J (jf_base _ _)) q4 (by decide), ?_⟩
        exact H.trans (rt_i (sub_J (fld_J (jf_updk (jf_base _ _) (add_J (fld_J (jf_base _ _)) jl_1))) jl_1) (jm_up (jm_up (jm_up rfl (jf_upd (jf_base _ _) (fld_J (jf_base _ _)) q4 (by decide) rfl)) (jf_upd (jf_base _ _) (fld_J (jf_base _ _)) q4 (by decide) rfl)) (jf_updk (jf_base _ _) (add_J (fld_J (jf_base _ _)) jl_1))))
-- 306 GlassWiresModel cut (I)I
theorem v306_0 {E : gw_N} {N : NM} {res : Option Value × gw_H} {x1 : Int} (H : ((R x1) ∧ (((if 0 ≤ x1 ∧ x1 ≤ 1 then (1 : Int) else 0) = 0 → res = (some (.int (J (-102))), hs E (jm N))) ∧ (¬ (if 0 ≤ x1 ∧ x1 ≤ 1 then (1 : Int) else 0) = 0 → (∃ (r1 : Int), Rn 305 [.ref 59] (hs E (jm N)) (some (.int (J r1))) (hs E (jm N)) ∧ ((R r1) ∧ ((r1 ≤ 8 → Ev 2 306 34 [some (.ref 59), some (.int (J x1)), some (.int (J 0)), some (.int (J 0)), none, none, none, none] [] (hs E (jm (upZ N 59 (updZ (N 59) 40 0)))) res) ∧ (¬ r1 ≤ 8 → res = (some (.int (J (-103))), hs E (jm N)))))))))) : Ev 2 306 0 [some (.ref 59), some (.int (J x1)), none, none, none, none, none, none] [] (hs E (jm N)) res := by
  refine w306_0 ?_
  obtain ⟨q1, H⟩ := H
  refine ⟨fun hc => ?_, fun hc => ?_⟩
  · replace H := H.1 ((eq_J (in_J (congrArg Int32.toInt64 rfl) ll_0 ll_1 q1 (by decide) (by decide)) jl_0 R_in (by decide)).mp hc)
    exact H.trans (rt_i jl_m102 rfl)
  · replace H := H.2 (fun hz => hc ((eq_J (in_J (congrArg Int32.toInt64 rfl) ll_0 ll_1 q1 (by decide) (by decide)) jl_0 R_in (by decide)).mpr hz))
    obtain ⟨r1, q3, H⟩ := H
    refine ⟨J r1, Rn_to (clx rfl) rfl rfl q3, ?_⟩
    obtain ⟨q2, H⟩ := H
    refine ⟨fun hc => ?_, fun hc => ?_⟩
    · replace H := H.1 ((le_J rfl jl_8 q2 (by decide)).mp hc)
      exact Ev_to (clx (cli rfl (cli jl_0 (cli jl_0 (clx (clx (clx (clx rfl)))))))) rfl (jm_up rfl (jf_updk (jf_base _ _) jl_0)) H
    · replace H := H.2 (fun hz => hc ((le_J rfl jl_8 q2 (by decide)).mpr hz))
      exact H.trans (rt_i jl_m103 rfl)
theorem v306_34 {E : gw_N} {N : NM} {res : Option Value × gw_H} {x1 : Int} {x2 : Int} {x3 : Int} (H : ((R ((N 59) 4)) ∧ ((R x3) ∧ ((((N 59) 4) ≤ x3 → ((R ((N 59) 40)) ∧ ((((N 59) 40) = 0 → res = (some (.int (J 0)), hs E (jm N))) ∧ (¬ ((N 59) 40) = 0 → Ev 2 306 118 [some (.ref 59), some (.int (J x1)), some (.int (J x2)), some (.int (J (-1))), some (.int (J 0)), some (.int (J 1)), none, none] [] (hs E (jm N)) res)))) ∧ (¬ ((N 59) 4) ≤ x3 → ((0 ≤ x3 ∧ x3 < 30) ∧ ((R ((N 64) x3)) ∧ ((((N 64) x3) = 0 → Ev 2 306 34 [some (.ref 59), some (.int (J x1)), some (.int (J x2)), some (.int (J (x3 + 1))), none, none, none, none] [] (hs E (jm N)) res) ∧ (¬ ((N 64) x3) = 0 → ((0 ≤ ((N 59) 40) ∧ ((N 59) 40) < 8) ∧ Ev 2 306 34 [some (.ref 59), some (.int (J x1)), some (.int (J (x2 + ((N 63) x3)))), some (.int (J (x3 + 1))), none, none, none, none] [] (hs E (jm (upZ (upZ (upZ N 86 (updZ (N 86) ((N 59) 40) ((N 63) x3))) 87 (updZ (N 87) ((N 59) 40) 0)) 59 (updZ (N 59) 40 (((N 59) 40) + 1))))) res)))))))))) : Ev 2 306 34 [some (.ref 59), some (.int (J x1)), some (.int (J x2)), some (.int (J x3)), none, none, none, none] [] (hs E (jm N)) res := by
  refine w306_34 ?_
  obtain ⟨q1, q2, H⟩ := H
  refine ⟨fun hc => ?_, fun hc => ?_⟩
  · replace H := H.1 ((le_J (fld_J (jf_base _ _)) rfl q1 q2).mp hc)
    obtain ⟨q3, H⟩ := H
    refine ⟨fun hc => ?_, fun hc => ?_⟩
    · replace H := H.1 ((eq_J (fld_J (jf_base _ _)) jl_0 q3 (by decide)).mp hc)
      exact H.trans (rt_i jl_0 rfl)
    · replace H := H.2 (fun hz => hc ((eq_J (fld_J (jf_base _ _)) jl_0 q3 (by decide)).mpr hz))
      exact Ev_to (clx (cli rfl (cli rfl (cli jl_m1 (cli jl_0 (cli jl_1 (clx (clx rfl)))))))) rfl rfl H
  · replace H := H.2 (fun hz => hc ((le_J (fld_J (jf_base _ _)) rfl q1 q2).mpr hz))
    obtain ⟨q4, H⟩ := H
    refine ⟨inb_J rfl q4 (by decide), ?_⟩
    obtain ⟨q5, H⟩ := H
    refine ⟨fun hc => ?_, fun hc => ?_⟩
    · replace H := H.1 ((eq_J (rd_J (jf_base _ _) rfl q4 (by decide)) jl_0 q5 (by decide)).mp hc)
      exact Ev_to (clx (cli rfl (cli rfl (cli (add_J rfl jl_1) (clx (clx (clx (clx rfl)))))))) rfl rfl H
    · replace H := H.2 (fun hz => hc ((eq_J (rd_J (jf_base _ _) rfl q4 (by decide)) jl_0 q5 (by decide)).mpr hz))
      refine ⟨inb_J rfl q4 (by decide), ?_⟩
      obtain ⟨q6, H⟩ := H
      refine ⟨inb_J (fld_J (jf_base _ _)) q6 (by decide), ?_⟩
      refine ⟨inb_J (fld_J (jf_base _ _)) q6 (by decide), ?_⟩
      refine ⟨inb_J rfl q4 (by decide), ?_⟩
      exact Ev_to (clx (cli rfl (cli (add_J rfl (rd_J (jf_base _ _) rfl q4 (by decide))) (cli (add_J rfl jl_1) (clx (clx (clx (clx rfl)))))))) rfl (jm_up (jm_up (jm_up rfl (jf_upd (jf_base _ _) (fld_J (jf_base _ _)) q6 (by decide) (rd_J (jf_base _ _) rfl q4 (by decide)))) (jf_upd (jf_base _ _) (fld_J (jf_base _ _)) q6 (by decide) jl_0)) (jf_updk (jf_base _ _) (add_J (fld_J (jf_base _ _)) jl_1))) H
theorem v306_118 {E : gw_N} {N : NM} {res : Option Value × gw_H} {x1 : Int} {x2 : Int} {x3 : Int} {x4 : Int} {x5 : Int} (H : ((R x5) ∧ ((x5 = 0 → ((R x3) ∧ ((x3 = (-1) → res = (some (.int (J (-1))), hs E (jm N))) ∧ (¬ x3 = (-1) → ((R x1) ∧ ((x1 = 0 → res = (some (.int (J x3)), hs E (jm N))) ∧ (¬ x1 = 0 → res = (some (.int (J (x4 - x2))), hs E (jm N))))))))) ∧ (¬ x5 = 0 → (∃ (r1 : Int) (N1 : NM), Rn 302 [.ref 59] (hs E (jm N)) (some (.int (J r1))) (hs E (jm N1)) ∧ (∃ (r2 : Int) (N2 : NM), Rn 303 [.ref 59, .int (J r1)] (hs E (jm N1)) (some (.int (J r2))) (hs E (jm N2)) ∧ ((R r2) ∧ ((r2 = (-1) → (∃ (r3 : Int) (N3 : NM), Rn 304 [.ref 59] (hs E (jm N2)) (some (.int (J r3))) (hs E (jm N3)) ∧ Ev 2 306 118 [some (.ref 59), some (.int (J x1)), some (.int (J x2)), some (.int (J x3)), some (.int (J x4)), some (.int (J r3)), none, none] [] (hs E (jm N3)) res)) ∧ (¬ r2 = (-1) → ((R x3) ∧ ((x3 = (-1) → (∃ (r4 : Int) (N4 : NM), Rn 304 [.ref 59] (hs E (jm N2)) (some (.int (J r4))) (hs E (jm N4)) ∧ Ev 2 306 118 [some (.ref 59), some (.int (J x1)), some (.int (J x2)), some (.int (J r1)), some (.int (J r2)), some (.int (J r4)), none, none] [] (hs E (jm N4)) res)) ∧ (¬ x3 = (-1) → ((R r1) ∧ ((r1 < x3 → (∃ (r5 : Int) (N5 : NM), Rn 304 [.ref 59] (hs E (jm N2)) (some (.int (J r5))) (hs E (jm N5)) ∧ Ev 2 306 118 [some (.ref 59), some (.int (J x1)), some (.int (J x2)), some (.int (J r1)), some (.int (J r2)), some (.int (J r5)), none, none] [] (hs E (jm N5)) res)) ∧ (¬ r1 < x3 → ((r1 = x3 → ((R x4) ∧ ((x4 ≤ r2 → (∃ (r6 : Int) (N6 : NM), Rn 304 [.ref 59] (hs E (jm N2)) (some (.int (J r6))) (hs E (jm N6)) ∧ Ev 2 306 118 [some (.ref 59), some (.int (J x1)), some (.int (J x2)), some (.int (J x3)), some (.int (J x4)), some (.int (J r6)), none, none] [] (hs E (jm N6)) res)) ∧ (¬ x4 ≤ r2 → (∃ (r7 : Int) (N7 : NM), Rn 304 [.ref 59] (hs E (jm N2)) (some (.int (J r7))) (hs E (jm N7)) ∧ Ev 2 306 118 [some (.ref 59), some (.int (J x1)), some (.int (J x2)), some (.int (J r1)), some (.int (J r2)), some (.int (J r7)), none, none] [] (hs E (jm N7)) res))))) ∧ (¬ r1 = x3 → (∃ (r8 : Int) (N8 : NM), Rn 304 [.ref 59] (hs E (jm N2)) (some (.int (J r8))) (hs E (jm N8)) ∧ Ev 2 306 118 [some (.ref 59), some (.int (J x1)), some (.int (J x2)), some (.int (J x3)), some (.int (J x4)), some (.int (J r8)), none, none] [] (hs E (jm N8)) res)))))))))))))))))) : Ev 2 306 118 [some (.ref 59), some (.int (J x1)), some (.int (J x2)), some (.int (J x3)), some (.int (J x4)), some (.int (J x5)), none, none] [] (hs E (jm N)) res := by
  refine w306_118 ?_
  obtain ⟨q1, H⟩ := H
  refine ⟨fun hc => ?_, fun hc => ?_⟩
  · replace H := H.1 ((eq_J rfl jl_0 q1 (by decide)).mp hc)
    obtain ⟨q2, H⟩ := H
    refine ⟨fun hc => ?_, fun hc => ?_⟩
    · replace H := H.1 ((eq_J rfl jl_m1 q2 (by decide)).mp hc)
      exact H.trans (rt_i jl_m1 rfl)
    · replace H := H.2 (fun hz => hc ((eq_J rfl jl_m1 q2 (by decide)).mpr hz))
      obtain ⟨q3, H⟩ := H
      refine ⟨fun hc => ?_, fun hc => ?_⟩
      · replace H := H.1 ((eq_J rfl jl_0 q3 (by decide)).mp hc)
        exact H.trans (rt_i rfl rfl)
      · replace H := H.2 (fun hz => hc ((eq_J rfl jl_0 q3 (by decide)).mpr hz))
        exact H.trans (rt_i (sub_J rfl rfl) rfl)
  · replace H := H.2 (fun hz => hc ((eq_J rfl jl_0 q1 (by decide)).mpr hz))
    obtain ⟨r1, N1, q15, H⟩ := H
    refine ⟨J r1, jm N1, Rn_to (clx rfl) rfl rfl q15, ?_⟩
    obtain ⟨r2, N2, q14, H⟩ := H
    refine ⟨J r2, jm N2, Rn_to (clx (cai rfl rfl)) rfl rfl q14, ?_⟩
    obtain ⟨q4, H⟩ := H
    refine ⟨fun hc => ?_, fun hc => ?_⟩
    · replace H := H.1 ((eq_J rfl jl_m1 q4 (by decide)).mp hc)
      obtain ⟨r3, N3, q5, H⟩ := H
      refine ⟨J r3, jm N3, Rn_to (clx rfl) rfl rfl q5, ?_⟩
      exact Ev_to (clx (cli rfl (cli rfl (cli rfl (cli rfl (cli rfl (clx (clx rfl)))))))) rfl rfl H
    · replace H := H.2 (fun hz => hc ((eq_J rfl jl_m1 q4 (by decide)).mpr hz))
      obtain ⟨q6, H⟩ := H
      refine ⟨fun hc => ?_, fun hc => ?_⟩
      · replace H := H.1 ((eq_J rfl jl_m1 q6 (by decide)).mp hc)
        obtain ⟨r4, N4, q7, H⟩ := H
        refine ⟨J r4, jm N4, Rn_to (clx rfl) rfl rfl q7, ?_⟩
        exact Ev_to (clx (cli rfl (cli rfl (cli rfl (cli rfl (cli rfl (clx (clx rfl)))))))) rfl rfl H
      · replace H := H.2 (fun hz => hc ((eq_J rfl jl_m1 q6 (by decide)).mpr hz))
        obtain ⟨q8, H⟩ := H
        refine ⟨fun hc => ?_, fun hc => ?_⟩
        · replace H := H.1 ((lt_J rfl rfl q8 q6).mp hc)
          obtain ⟨r5, N5, q9, H⟩ := H
          refine ⟨J r5, jm N5, Rn_to (clx rfl) rfl rfl q9, ?_⟩
          exact Ev_to (clx (cli rfl (cli rfl (cli rfl (cli rfl (cli rfl (clx (clx rfl)))))))) rfl rfl H
        · replace H := H.2 (fun hz => hc ((lt_J rfl rfl q8 q6).mpr hz))
          refine ⟨fun hc => ?_, fun hc => ?_⟩
          · replace H := H.1 ((eq_J rfl rfl q8 q6).mp hc)
            obtain ⟨q10, H⟩ := H
            refine ⟨fun hc => ?_, fun hc => ?_⟩
            · replace H := H.1 ((le_J rfl rfl q10 q4).mp hc)
              obtain ⟨r6, N6, q11, H⟩ := H
              refine ⟨J r6, jm N6, Rn_to (clx rfl) rfl rfl q11, ?_⟩
              exact Ev_to (clx (cli rfl (cli rfl (cli rfl (cli rfl (cli rfl (clx (clx rfl)))))))) rfl rfl H
            · replace H := H.2 (fun hz => hc ((le_J rfl rfl q10 q4).mpr hz))
              obtain ⟨r7, N7, q12, H⟩ := H
              refine ⟨J r7, jm N7, Rn_to (clx rfl) rfl rfl q12, ?_⟩
              exact Ev_to (clx (cli rfl (cli rfl (cli rfl (cli rfl (cli rfl (clx (clx rfl)))))))) rfl rfl H
          · replace H := H.2 (fun hz => hc ((eq_J rfl rfl q8 q6).mpr hz))
            obtain ⟨r8, N8, q13, H⟩ := H
            refine ⟨J r8, jm N8, Rn_to (clx rfl) rfl rfl q13, ?_⟩
            exact Ev_to (clx (cli rfl (cli rfl (cli rfl (cli rfl (cli rfl (clx (clx rfl)))))))) rfl rfl H
-- 307 GlassWiresModel count (I)I
theorem v307_0 {E : gw_N} {N : NM} {res : Option Value × gw_H} {x1 : Int} (H : ((R x1) ∧ ((x1 = 0 → res = (some (.int (J (G243 N))), hs E (jm N))) ∧ (x1 = 1 → res = (some (.int (J ((N 59) 4))), hs E (jm N))) ∧ (x1 = 2 → (∃ (r1 : Int), Rn 305 [.ref 59] (hs E (jm N)) (some (.int (J r1))) (hs E (jm N)) ∧ res = (some (.int (J r1)), hs E (jm N)))) ∧ (x1 = 3 → res = (some (.int (J ((N 59) 3))), hs E (jm N))) ∧ (x1 = 4 → res = (some (.int (J ((N 59) 36))), hs E (jm N))) ∧ (x1 = 5 → Ev 2 307 67 [some (.ref 59), none, some (.int (J 0)), some (.int (J 0))] [] (hs E (jm N)) res) ∧ (¬ x1 = 0 → ¬ x1 = 1 → ¬ x1 = 2 → ¬ x1 = 3 → ¬ x1 = 4 → ¬ x1 = 5 → res = (some (.int (J (-102))), hs E (jm N)))))) : Ev 2 307 0 [some (.ref 59), some (.int (J x1)), none, none] [] (hs E (jm N)) res := by
  refine w307_0 ?_
  obtain ⟨q1, H⟩ := H
  refine ⟨fun hc => ?_, fun hc => ?_, fun hc => ?_, fun hc => ?_, fun hc => ?_, fun hc => ?_, fun hc0 hc1 hc2 hc3 hc4 hc5 => ?_⟩
  · replace H := (H.1) ((eq_J rfl jl_0 q1 (by decide)).mp hc)
    exact H.trans (rt_i ((congrArg F243 rfl).trans (t243)) rfl)
  · replace H := (H.2.1) ((eq_J rfl jl_1 q1 (by decide)).mp hc)
    exact H.trans (rt_i (fld_J (jf_base _ _)) rfl)
  · replace H := (H.2.2.1) ((eq_J rfl jl_2 q1 (by decide)).mp hc)
    obtain ⟨r1, q2, H⟩ := H
    refine ⟨J r1, Rn_to (clx rfl) rfl rfl q2, ?_⟩
    exact H.trans (rt_i rfl rfl)
  · replace H := (H.2.2.2.1) ((eq_J rfl jl_3 q1 (by decide)).mp hc)
    exact H.trans (rt_i (fld_J (jf_base _ _)) rfl)
  · replace H := (H.2.2.2.2.1) ((eq_J rfl jl_4 q1 (by decide)).mp hc)
    exact H.trans (rt_i (fld_J (jf_base _ _)) rfl)
  · replace H := (H.2.2.2.2.2.1) ((eq_J rfl jl_5 q1 (by decide)).mp hc)
    exact Ev_to (clx (clx (cli jl_0 (cli jl_0 rfl)))) rfl rfl H
  · replace H := (H.2.2.2.2.2.2) (fun hz => hc0 ((eq_J rfl jl_0 q1 (by decide)).mpr hz)) (fun hz => hc1 ((eq_J rfl jl_1 q1 (by decide)).mpr hz)) (fun hz => hc2 ((eq_J rfl jl_2 q1 (by decide)).mpr hz)) (fun hz => hc3 ((eq_J rfl jl_3 q1 (by decide)).mpr hz)) (fun hz => hc4 ((eq_J rfl jl_4 q1 (by decide)).mpr hz)) (fun hz => hc5 ((eq_J rfl jl_5 q1 (by decide)).mpr hz))
    exact H.trans (rt_i jl_m102 rfl)
theorem v307_67 {E : gw_N} {N : NM} {res : Option Value × gw_H} {x2 : Int} {x3 : Int} (H : ((R (G243 N)) ∧ ((R x3) ∧ (((G243 N) ≤ x3 → res = (some (.int (J x2)), hs E (jm N))) ∧ (¬ (G243 N) ≤ x3 → ((0 ≤ x3 ∧ x3 < 64) ∧ Ev 2 307 67 [some (.ref 59), none, some (.int (J (x2 + ((N 77) x3)))), some (.int (J (x3 + 1)))] [] (hs E (jm N)) res)))))) : Ev 2 307 67 [some (.ref 59), none, some (.int (J x2)), some (.int (J x3))] [] (hs E (jm N)) res := by
  refine w307_67 ?_
  obtain ⟨q1, q2, H⟩ := H
  refine ⟨fun hc => ?_, fun hc => ?_⟩
  · replace H := H.1 ((le_J ((congrArg F243 rfl).trans (t243)) rfl q1 q2).mp hc)
    exact H.trans (rt_i rfl rfl)
  · replace H := H.2 (fun hz => hc ((le_J ((congrArg F243 rfl).trans (t243)) rfl q1 q2).mpr hz))
    obtain ⟨q3, H⟩ := H
    refine ⟨inb_J rfl q3 (by decide), ?_⟩
    exact Ev_to (clx (clx (cli (add_J rfl (rd_J (jf_base _ _) rfl q3 (by decide))) (cli (add_J rfl jl_1) rfl)))) rfl rfl H
-- 308 GlassWiresModel digest ()J
theorem v308_0 {E : gw_N} {N : NM} {res : Option Value × gw_H}  (H : Ev 2 308 24 [some (.ref 59), some (.long ((31 * (7223 + (Int32.toInt64 (J ((N 59) 0))))) + (Int32.toInt64 (J ((N 59) 1))))), none, some (.int (J 0)), none] [] (hs E (jm N)) res) : Ev 2 308 0 [some (.ref 59), none, none, none, none] [] (hs E (jm N)) res := by
  refine w308_0 ?_
  exact Ev_to (clx (cll (cg2 (fun (a b : Int64) => a + b) (cg2 (fun (a b : Int64) => a * b) rfl (cg2 (fun (a b : Int64) => a + b) rfl (congrArg Int32.toInt64 (fld_J (jf_base _ _))))) (congrArg Int32.toInt64 (fld_J (jf_base _ _)))) (clx (cli jl_0 (clx rfl))))) rfl rfl H
theorem v308_24 {E : gw_N} {N : NM} {res : Option Value × gw_H} {x1 : Int64} {x3 : Int} (H : ((R ((N 59) 4)) ∧ ((R x3) ∧ ((((N 59) 4) ≤ x3 → Ev 2 308 140 [some (.ref 59), some (.long x1), none, some (.int (J 0)), none] [] (hs E (jm N)) res) ∧ (¬ ((N 59) 4) ≤ x3 → ((0 ≤ x3 ∧ x3 < 30) ∧ ((R ((N 64) x3)) ∧ ((((N 64) x3) = 0 → ((R ((N 65) x3)) ∧ ((((N 65) x3) = 0 → Ev 2 308 79 [some (.ref 59), some (.long ((31 * ((31 * x1) + (Int32.toInt64 (J 0)))) + (Int32.toInt64 (J 0)))), none, some (.int (J x3)), some (.int (J 0))] [] (hs E (jm N)) res) ∧ (¬ ((N 65) x3) = 0 → Ev 2 308 79 [some (.ref 59), some (.long ((31 * ((31 * x1) + (Int32.toInt64 (J 0)))) + (Int32.toInt64 (J 1)))), none, some (.int (J x3)), some (.int (J 0))] [] (hs E (jm N)) res)))) ∧ (¬ ((N 64) x3) = 0 → ((R ((N 65) x3)) ∧ ((((N 65) x3) = 0 → Ev 2 308 79 [some (.ref 59), some (.long ((31 * ((31 * x1) + (Int32.toInt64 (J 1)))) + (Int32.toInt64 (J 0)))), none, some (.int (J x3)), some (.int (J 0))] [] (hs E (jm N)) res) ∧ (¬ ((N 65) x3) = 0 → Ev 2 308 79 [some (.ref 59), some (.long ((31 * ((31 * x1) + (Int32.toInt64 (J 1)))) + (Int32.toInt64 (J 1)))), none, some (.int (J x3)), some (.int (J 0))] [] (hs E (jm N)) res)))))))))))) : Ev 2 308 24 [some (.ref 59), some (.long x1), none, some (.int (J x3)), none] [] (hs E (jm N)) res := by
  refine w308_24 ?_
  obtain ⟨q1, q2, H⟩ := H
  refine ⟨fun hc => ?_, fun hc => ?_⟩
  · replace H := H.1 ((le_J (fld_J (jf_base _ _)) rfl q1 q2).mp hc)
    exact Ev_to (clx (cll rfl (clx (cli jl_0 (clx rfl))))) rfl rfl H
  · replace H := H.2 (fun hz => hc ((le_J (fld_J (jf_base _ _)) rfl q1 q2).mpr hz))
    obtain ⟨q3, H⟩ := H
    refine ⟨inb_J rfl q3 (by decide), ?_⟩
    obtain ⟨q4, H⟩ := H
    refine ⟨fun hc => ?_, fun hc => ?_⟩
    · replace H := H.1 ((eq_J (rd_J (jf_base _ _) rfl q3 (by decide)) jl_0 q4 (by decide)).mp hc)
      refine ⟨inb_J rfl q3 (by decide), ?_⟩
      obtain ⟨q5, H⟩ := H
      refine ⟨fun hc => ?_, fun hc => ?_⟩
      · replace H := H.1 ((eq_J (rd_J (jf_base _ _) rfl q3 (by decide)) jl_0 q5 (by decide)).mp hc)
        exact Ev_to (clx (cll (cg2 (fun (a b : Int64) => a + b) (cg2 (fun (a b : Int64) => a * b) rfl (cg2 (fun (a b : Int64) => a + b) (cg2 (fun (a b : Int64) => a * b) rfl rfl) (congrArg Int32.toInt64 jl_0))) (congrArg Int32.toInt64 jl_0)) (clx (cli rfl (cli jl_0 rfl))))) rfl rfl H
      · replace H := H.2 (fun hz => hc ((eq_J (rd_J (jf_base _ _) rfl q3 (by decide)) jl_0 q5 (by decide)).mpr hz))
        exact Ev_to (clx (cll (cg2 (fun (a b : Int64) => a + b) (cg2 (fun (a b : Int64) => a * b) rfl (cg2 (fun (a b : Int64) => a + b) (cg2 (fun (a b : Int64) => a * b) rfl rfl) (congrArg Int32.toInt64 jl_0))) (congrArg Int32.toInt64 jl_1)) (clx (cli rfl (cli jl_0 rfl))))) rfl rfl H
    · replace H := H.2 (fun hz => hc ((eq_J (rd_J (jf_base _ _) rfl q3 (by decide)) jl_0 q4 (by decide)).mpr hz))
      refine ⟨inb_J rfl q3 (by decide), ?_⟩
      obtain ⟨q6, H⟩ := H
      refine ⟨fun hc => ?_, fun hc => ?_⟩
      · replace H := H.1 ((eq_J (rd_J (jf_base _ _) rfl q3 (by decide)) jl_0 q6 (by decide)).mp hc)
        exact Ev_to (clx (cll (cg2 (fun (a b : Int64) => a + b) (cg2 (fun (a b : Int64) => a * b) rfl (cg2 (fun (a b : Int64) => a + b) (cg2 (fun (a b : Int64) => a * b) rfl rfl) (congrArg Int32.toInt64 jl_1))) (congrArg Int32.toInt64 jl_0)) (clx (cli rfl (cli jl_0 rfl))))) rfl rfl H
      · replace H := H.2 (fun hz => hc ((eq_J (rd_J (jf_base _ _) rfl q3 (by decide)) jl_0 q6 (by decide)).mpr hz))
        exact Ev_to (clx (cll (cg2 (fun (a b : Int64) => a + b) (cg2 (fun (a b : Int64) => a * b) rfl (cg2 (fun (a b : Int64) => a + b) (cg2 (fun (a b : Int64) => a * b) rfl rfl) (congrArg Int32.toInt64 jl_1))) (congrArg Int32.toInt64 jl_1)) (clx (cli rfl (cli jl_0 rfl))))) rfl rfl H
theorem v308_140 {E : gw_N} {N : NM} {res : Option Value × gw_H} {x1 : Int64} {x3 : Int} (H : ((R x3) ∧ (((8 : Int) ≤ x3 → Ev 2 308 196 [some (.ref 59), some (.long x1), none, some (.int (J 0)), none] [] (hs E (jm N)) res) ∧ (¬ (8 : Int) ≤ x3 → ((0 ≤ x3 ∧ x3 < 8) ∧ Ev 2 308 140 [some (.ref 59), some (.long ((31 * ((31 * ((31 * x1) + (Int32.toInt64 (J ((N 73) x3))))) + (Int32.toInt64 (J ((N 74) x3))))) + (Int32.toInt64 (J ((N 75) x3))))), none, some (.int (J (x3 + 1))), none] [] (hs E (jm N)) res))))) : Ev 2 308 140 [some (.ref 59), some (.long x1), none, some (.int (J x3)), none] [] (hs E (jm N)) res := by
  refine w308_140 ?_
  obtain ⟨q1, H⟩ := H
  refine ⟨fun hc => ?_, fun hc => ?_⟩
  · replace H := H.1 ((le_J jl_8 rfl (by decide) q1).mp hc)
    exact Ev_to (clx (cll rfl (clx (cli jl_0 (clx rfl))))) rfl rfl H
  · replace H := H.2 (fun hz => hc ((le_J jl_8 rfl (by decide) q1).mpr hz))
    obtain ⟨q2, H⟩ := H
    refine ⟨inb_J rfl q2 (by decide), ?_⟩
    refine ⟨inb_J rfl q2 (by decide), ?_⟩
    refine ⟨inb_J rfl q2 (by decide), ?_⟩
    exact Ev_to (clx (cll (cg2 (fun (a b : Int64) => a + b) (cg2 (fun (a b : Int64) => a * b) rfl (cg2 (fun (a b : Int64) => a + b) (cg2 (fun (a b : Int64) => a * b) rfl (cg2 (fun (a b : Int64) => a + b) (cg2 (fun (a b : Int64) => a * b) rfl rfl) (congrArg Int32.toInt64 (rd_J (jf_base _ _) rfl q2 (by decide))))) (congrArg Int32.toInt64 (rd_J (jf_base _ _) rfl q2 (by decide))))) (congrArg Int32.toInt64 (rd_J (jf_base _ _) rfl q2 (by decide)))) (clx (cli (add_J rfl jl_1) (clx rfl))))) rfl rfl H
theorem v308_79 {E : gw_N} {N : NM} {res : Option Value × gw_H} {x1 : Int64} {x3 : Int} {x4 : Int} (H : ((0 ≤ x3 ∧ x3 < 30) ∧ ((R ((N 63) x3)) ∧ ((R x4) ∧ ((((N 63) x3) < x4 → Ev 2 308 24 [some (.ref 59), some (.long x1), none, some (.int (J (x3 + 1))), none] [] (hs E (jm N)) res) ∧ (¬ ((N 63) x3) < x4 → ((0 ≤ ((25 * x3) + x4) ∧ ((25 * x3) + x4) < 750) ∧ Ev 2 308 79 [some (.ref 59), some (.long ((31 * x1) + (Int32.toInt64 (J ((10 * ((N 62) ((25 * x3) + x4))) + ((N 61) ((25 * x3) + x4))))))), none, some (.int (J x3)), some (.int (J (x4 + 1)))] [] (hs E (jm N)) res))))))) : Ev 2 308 79 [some (.ref 59), some (.long x1), none, some (.int (J x3)), some (.int (J x4))] [] (hs E (jm N)) res := by
  refine w308_79 ?_
  obtain ⟨q1, H⟩ := H
  refine ⟨inb_J rfl q1 (by decide), ?_⟩
  obtain ⟨q2, q3, H⟩ := H
  refine ⟨fun hc => ?_, fun hc => ?_⟩
  · replace H := H.1 ((lt_J (rd_J (jf_base _ _) rfl q1 (by decide)) rfl q2 q3).mp hc)
    exact Ev_to (clx (cll rfl (clx (cli (add_J rfl jl_1) (clx rfl))))) rfl rfl H
  · replace H := H.2 (fun hz => hc ((lt_J (rd_J (jf_base _ _) rfl q1 (by decide)) rfl q2 q3).mpr hz))
    obtain ⟨q4, H⟩ := H
    refine ⟨inb_J (add_J (mul_J jl_25 rfl) rfl) q4 (by decide), ?_⟩
    refine ⟨inb_J (add_J (mul_J jl_25 rfl) rfl) q4 (by decide), ?_⟩
    exact Ev_to (clx (cll (cg2 (fun (a b : Int64) => a + b) (cg2 (fun (a b : Int64) => a * b) rfl rfl) (congrArg Int32.toInt64 (add_J (mul_J jl_10 (rd_J (jf_base _ _) (add_J (mul_J jl_25 rfl) rfl) q4 (by decide))) (rd_J (jf_base _ _) (add_J (mul_J jl_25 rfl) rfl) q4 (by decide))))) (clx (cli rfl (cli (add_J rfl jl_1) rfl))))) rfl rfl H
theorem v308_196 {E : gw_N} {N : NM} {res : Option Value × gw_H} {x1 : Int64} {x3 : Int} (H : ((R x3) ∧ (((8 : Int) ≤ x3 → Ev 2 308 292 [some (.ref 59), some (.long ((31 * ((31 * ((31 * x1) + (Int32.toInt64 (J ((N 59) 22))))) + (Int32.toInt64 (J ((N 59) 23))))) + (Int32.toInt64 (J ((N 59) 24))))), none, some (.int (J 0)), none] [] (hs E (jm N)) res) ∧ (¬ (8 : Int) ≤ x3 → Ev 2 308 207 [some (.ref 59), some (.long x1), none, some (.int (J x3)), some (.int (J (x3 + 1)))] [] (hs E (jm N)) res)))) : Ev 2 308 196 [some (.ref 59), some (.long x1), none, some (.int (J x3)), none] [] (hs E (jm N)) res := by
  refine w308_196 ?_
  obtain ⟨q1, H⟩ := H
  refine ⟨fun hc => ?_, fun hc => ?_⟩
  · replace H := H.1 ((le_J jl_8 rfl (by decide) q1).mp hc)
    exact Ev_to (clx (cll (cg2 (fun (a b : Int64) => a + b) (cg2 (fun (a b : Int64) => a * b) rfl (cg2 (fun (a b : Int64) => a + b) (cg2 (fun (a b : Int64) => a * b) rfl (cg2 (fun (a b : Int64) => a + b) (cg2 (fun (a b : Int64) => a * b) rfl rfl) (congrArg Int32.toInt64 (fld_J (jf_base _ _))))) (congrArg Int32.toInt64 (fld_J (jf_base _ _))))) (congrArg Int32.toInt64 (fld_J (jf_base _ _)))) (clx (cli jl_0 (clx rfl))))) rfl rfl H
  · replace H := H.2 (fun hz => hc ((le_J jl_8 rfl (by decide) q1).mpr hz))
    exact Ev_to (clx (cll rfl (clx (cli rfl (cli (add_J rfl jl_1) rfl))))) rfl rfl H
theorem v308_292 {E : gw_N} {N : NM} {res : Option Value × gw_H} {x1 : Int64} {x3 : Int} (H : ((R (G243 N)) ∧ ((R x3) ∧ (((G243 N) ≤ x3 → Ev 2 308 424 [some (.ref 59), some (.long ((31 * ((31 * ((31 * x1) + (Int32.toInt64 (J ((N 59) 34))))) + (Int32.toInt64 (J ((N 59) 35))))) + (Int32.toInt64 (J ((N 59) 29))))), none, some (.int (J 0)), none] [] (hs E (jm N)) res) ∧ (¬ (G243 N) ≤ x3 → Ev 2 308 303 [some (.ref 59), some (.long x1), none, some (.int (J x3)), some (.int (J 0))] [] (hs E (jm N)) res))))) : Ev 2 308 292 [some (.ref 59), some (.long x1), none, some (.int (J x3)), none] [] (hs E (jm N)) res := by
  refine w308_292 ?_
  obtain ⟨q1, q2, H⟩ := H
  refine ⟨fun hc => ?_, fun hc => ?_⟩
  · replace H := H.1 ((le_J ((congrArg F243 rfl).trans (t243)) rfl q1 q2).mp hc)
    exact Ev_to (clx (cll (cg2 (fun (a b : Int64) => a + b) (cg2 (fun (a b : Int64) => a * b) rfl (cg2 (fun (a b : Int64) => a + b) (cg2 (fun (a b : Int64) => a * b) rfl (cg2 (fun (a b : Int64) => a + b) (cg2 (fun (a b : Int64) => a * b) rfl rfl) (congrArg Int32.toInt64 (fld_J (jf_base _ _))))) (congrArg Int32.toInt64 (fld_J (jf_base _ _))))) (congrArg Int32.toInt64 (fld_J (jf_base _ _)))) (clx (cli jl_0 (clx rfl))))) rfl rfl H
  · replace H := H.2 (fun hz => hc ((le_J ((congrArg F243 rfl).trans (t243)) rfl q1 q2).mpr hz))
    exact Ev_to (clx (cll rfl (clx (cli rfl (cli jl_0 rfl))))) rfl rfl H
theorem v308_207 {E : gw_N} {N : NM} {res : Option Value × gw_H} {x1 : Int64} {x3 : Int} {x4 : Int} (H : ((R x4) ∧ (((8 : Int) ≤ x4 → Ev 2 308 196 [some (.ref 59), some (.long x1), none, some (.int (J (x3 + 1))), none] [] (hs E (jm N)) res) ∧ (¬ (8 : Int) ≤ x4 → ((0 ≤ ((8 * x3) + x4) ∧ ((8 * x3) + x4) < 64) ∧ ((R ((N 76) ((8 * x3) + x4))) ∧ ((((N 76) ((8 * x3) + x4)) = 0 → Ev 2 308 207 [some (.ref 59), some (.long ((31 * x1) + (Int32.toInt64 (J 0)))), none, some (.int (J x3)), some (.int (J (x4 + 1)))] [] (hs E (jm N)) res) ∧ (¬ ((N 76) ((8 * x3) + x4)) = 0 → Ev 2 308 207 [some (.ref 59), some (.long ((31 * x1) + (Int32.toInt64 (J 1)))), none, some (.int (J x3)), some (.int (J (x4 + 1)))] [] (hs E (jm N)) res)))))))) : Ev 2 308 207 [some (.ref 59), some (.long x1), none, some (.int (J x3)), some (.int (J x4))] [] (hs E (jm N)) res := by
  refine w308_207 ?_
  obtain ⟨q1, H⟩ := H
  refine ⟨fun hc => ?_, fun hc => ?_⟩
  · replace H := H.1 ((le_J jl_8 rfl (by decide) q1).mp hc)
    exact Ev_to (clx (cll rfl (clx (cli (add_J rfl jl_1) (clx rfl))))) rfl rfl H
  · replace H := H.2 (fun hz => hc ((le_J jl_8 rfl (by decide) q1).mpr hz))
    obtain ⟨q2, H⟩ := H
    refine ⟨inb_J (add_J (mul_J jl_8 rfl) rfl) q2 (by decide), ?_⟩
    obtain ⟨q3, H⟩ := H
    refine ⟨fun hc => ?_, fun hc => ?_⟩
    · replace H := H.1 ((eq_J (rd_J (jf_base _ _) (add_J (mul_J jl_8 rfl) rfl) q2 (by decide)) jl_0 q3 (by decide)).mp hc)
      exact Ev_to (clx (cll (cg2 (fun (a b : Int64) => a + b) (cg2 (fun (a b : Int64) => a * b) rfl rfl) (congrArg Int32.toInt64 jl_0)) (clx (cli rfl (cli (add_J rfl jl_1) rfl))))) rfl rfl H
    · replace H := H.2 (fun hz => hc ((eq_J (rd_J (jf_base _ _) (add_J (mul_J jl_8 rfl) rfl) q2 (by decide)) jl_0 q3 (by decide)).mpr hz))
      exact Ev_to (clx (cll (cg2 (fun (a b : Int64) => a + b) (cg2 (fun (a b : Int64) => a * b) rfl rfl) (congrArg Int32.toInt64 jl_1)) (clx (cli rfl (cli (add_J rfl jl_1) rfl))))) rfl rfl H
theorem v308_424 {E : gw_N} {N : NM} {res : Option Value × gw_H} {x1 : Int64} {x3 : Int} (H : ((R ((N 59) 36)) ∧ ((R x3) ∧ ((((N 59) 36) ≤ x3 → Ev 2 308 468 [some (.ref 59), some (.long x1), none, some (.int (J 0)), none] [] (hs E (jm N)) res) ∧ (¬ ((N 59) 36) ≤ x3 → ((0 ≤ x3 ∧ x3 < 8) ∧ Ev 2 308 424 [some (.ref 59), some (.long ((31 * ((31 * x1) + (Int32.toInt64 (J ((N 84) x3))))) + (Int32.toInt64 (J ((N 85) x3))))), none, some (.int (J (x3 + 1))), none] [] (hs E (jm N)) res)))))) : Ev 2 308 424 [some (.ref 59), some (.long x1), none, some (.int (J x3)), none] [] (hs E (jm N)) res := by
  refine w308_424 ?_
  obtain ⟨q1, q2, H⟩ := H
  refine ⟨fun hc => ?_, fun hc => ?_⟩
  · replace H := H.1 ((le_J (fld_J (jf_base _ _)) rfl q1 q2).mp hc)
    exact Ev_to (clx (cll rfl (clx (cli jl_0 (clx rfl))))) rfl rfl H
  · replace H := H.2 (fun hz => hc ((le_J (fld_J (jf_base _ _)) rfl q1 q2).mpr hz))
    obtain ⟨q3, H⟩ := H
    refine ⟨inb_J rfl q3 (by decide), ?_⟩
    refine ⟨inb_J rfl q3 (by decide), ?_⟩
    exact Ev_to (clx (cll (cg2 (fun (a b : Int64) => a + b) (cg2 (fun (a b : Int64) => a * b) rfl (cg2 (fun (a b : Int64) => a + b) (cg2 (fun (a b : Int64) => a * b) rfl rfl) (congrArg Int32.toInt64 (rd_J (jf_base _ _) rfl q3 (by decide))))) (congrArg Int32.toInt64 (rd_J (jf_base _ _) rfl q3 (by decide)))) (clx (cli (add_J rfl jl_1) (clx rfl))))) rfl rfl H
theorem v308_303 {E : gw_N} {N : NM} {res : Option Value × gw_H} {x1 : Int64} {x3 : Int} {x4 : Int} (H : ((0 ≤ x3 ∧ x3 < 64) ∧ ((R ((N 77) x3)) ∧ ((R x4) ∧ ((((N 77) x3) ≤ x4 → Ev 2 308 292 [some (.ref 59), some (.long x1), none, some (.int (J (x3 + 1))), none] [] (hs E (jm N)) res) ∧ (¬ ((N 77) x3) ≤ x4 → ((0 ≤ ((12 * x3) + x4) ∧ ((12 * x3) + x4) < 768) ∧ Ev 2 308 303 [some (.ref 59), some (.long ((31 * ((31 * ((31 * x1) + (Int32.toInt64 (J ((N 78) ((12 * x3) + x4)))))) + (Int32.toInt64 (J ((N 79) ((12 * x3) + x4)))))) + (Int32.toInt64 (J ((N 80) ((12 * x3) + x4)))))), none, some (.int (J x3)), some (.int (J (x4 + 1)))] [] (hs E (jm N)) res))))))) : Ev 2 308 303 [some (.ref 59), some (.long x1), none, some (.int (J x3)), some (.int (J x4))] [] (hs E (jm N)) res := by
  refine w308_303 ?_
  obtain ⟨q1, H⟩ := H
  refine ⟨inb_J rfl q1 (by decide), ?_⟩
  obtain ⟨q2, q3, H⟩ := H
  refine ⟨fun hc => ?_, fun hc => ?_⟩
  · replace H := H.1 ((le_J (rd_J (jf_base _ _) rfl q1 (by decide)) rfl q2 q3).mp hc)
    exact Ev_to (clx (cll rfl (clx (cli (add_J rfl jl_1) (clx rfl))))) rfl rfl H
  · replace H := H.2 (fun hz => hc ((le_J (rd_J (jf_base _ _) rfl q1 (by decide)) rfl q2 q3).mpr hz))
    obtain ⟨q4, H⟩ := H
    refine ⟨inb_J (add_J (mul_J jl_12 rfl) rfl) q4 (by decide), ?_⟩
    refine ⟨inb_J (add_J (mul_J jl_12 rfl) rfl) q4 (by decide), ?_⟩
    refine ⟨inb_J (add_J (mul_J jl_12 rfl) rfl) q4 (by decide), ?_⟩
    exact Ev_to (clx (cll (cg2 (fun (a b : Int64) => a + b) (cg2 (fun (a b : Int64) => a * b) rfl (cg2 (fun (a b : Int64) => a + b) (cg2 (fun (a b : Int64) => a * b) rfl (cg2 (fun (a b : Int64) => a + b) (cg2 (fun (a b : Int64) => a * b) rfl rfl) (congrArg Int32.toInt64 (rd_J (jf_base _ _) (add_J (mul_J jl_12 rfl) rfl) q4 (by decide))))) (congrArg Int32.toInt64 (rd_J (jf_base _ _) (add_J (mul_J jl_12 rfl) rfl) q4 (by decide))))) (congrArg Int32.toInt64 (rd_J (jf_base _ _) (add_J (mul_J jl_12 rfl) rfl) q4 (by decide)))) (clx (cli rfl (cli (add_J rfl jl_1) rfl))))) rfl rfl H
theorem v308_468 {E : gw_N} {N : NM} {res : Option Value × gw_H} {x1 : Int64} {x3 : Int} (H : ((R ((N 59) 3)) ∧ ((R x3) ∧ ((((N 59) 3) ≤ x3 → res = (some (.long x1), hs E (jm N))) ∧ (¬ ((N 59) 3) ≤ x3 → ((0 ≤ x3 ∧ x3 < 40) ∧ Ev 2 308 468 [some (.ref 59), some (.long ((31 * x1) + (Int32.toInt64 (J ((N 60) x3))))), none, some (.int (J (x3 + 1))), none] [] (hs E (jm N)) res)))))) : Ev 2 308 468 [some (.ref 59), some (.long x1), none, some (.int (J x3)), none] [] (hs E (jm N)) res := by
  refine w308_468 ?_
  obtain ⟨q1, q2, H⟩ := H
  refine ⟨fun hc => ?_, fun hc => ?_⟩
  · replace H := H.1 ((le_J (fld_J (jf_base _ _)) rfl q1 q2).mp hc)
    exact H.trans (rt_l rfl rfl)
  · replace H := H.2 (fun hz => hc ((le_J (fld_J (jf_base _ _)) rfl q1 q2).mpr hz))
    obtain ⟨q3, H⟩ := H
    refine ⟨inb_J rfl q3 (by decide), ?_⟩
    exact Ev_to (clx (cll (cg2 (fun (a b : Int64) => a + b) (cg2 (fun (a b : Int64) => a * b) rfl rfl) (congrArg Int32.toInt64 (rd_J (jf_base _ _) rfl q3 (by decide)))) (clx (cli (add_J rfl jl_1) (clx rfl))))) rfl rfl H
-- 21 GlassWires$Glass burn (II)V
theorem v21_0 {E : gw_N} {N : NM} {res : Option Value × gw_H} {x1 : Int} {x2 : Int} (H : ((0 ≤ x1 ∧ x1 < 768) ∧ ((R ((N 48) x1)) ∧ ((((N 48) x1) = 1 → ((Q100 N ((N 46) x1)) ∧ ((R x2) ∧ ((R (G100 N ((N 46) x1))) ∧ ((x2 ≤ (G100 N ((N 46) x1)) → res = (none, hs E (jm N))) ∧ (¬ x2 ≤ (G100 N ((N 46) x1)) → res = (none, hs E (jm (upZ N 48 (updZ (N 48) x1 2)))))))))) ∧ (¬ ((N 48) x1) = 1 → res = (none, hs E (jm N))))))) : Ev 3 21 0 [some (.ref 44), some (.int (J x1)), some (.int (J x2))] [] (hs E (jm N)) res := by
  refine w21_0 ?_
  obtain ⟨q1, H⟩ := H
  refine ⟨inb_J rfl q1 (by decide), ?_⟩
  obtain ⟨q2, H⟩ := H
  refine ⟨fun hc => ?_, fun hc => ?_⟩
  · replace H := H.1 ((eq_J (rd_J (jf_base _ _) rfl q1 (by decide)) jl_1 q2 (by decide)).mp hc)
    refine ⟨inb_J rfl q1 (by decide), ?_⟩
    obtain ⟨q3, H⟩ := H
    refine ⟨Eq.mpr (congr (congrArg P100 rfl) (rd_J (jf_base _ _) rfl q1 (by decide))) (p100 q3), ?_⟩
    obtain ⟨q4, q5, H⟩ := H
    refine ⟨fun hc => ?_, fun hc => ?_⟩
    · replace H := H.1 ((le_J rfl ((congr (congrArg F100 rfl) (rd_J (jf_base _ _) rfl q1 (by decide))).trans (t100 q3)) q4 q5).mp hc)
      exact H.trans (rt_n rfl)
    · replace H := H.2 (fun hz => hc ((le_J rfl ((congr (congrArg F100 rfl) (rd_J (jf_base _ _) rfl q1 (by decide))).trans (t100 q3)) q4 q5).mpr hz))
      refine ⟨inb_J rfl q1 (by decide), ?_⟩
      exact H.trans (rt_n (jm_up rfl (jf_upd (jf_base _ _) rfl q1 (by decide) jl_2)))
  · replace H := H.2 (fun hz => hc ((eq_J (rd_J (jf_base _ _) rfl q1 (by decide)) jl_1 q2 (by decide)).mpr hz))
    exact H.trans (rt_n rfl)
-- 25 GlassWires$Glass polishAll ()I
theorem v25_0 {E : gw_N} {N : NM} {res : Option Value × gw_H}  (H : Ev 3 25 4 [some (.ref 44), some (.int (J 0)), some (.int (J 0)), none, none, none] [] (hs E (jm N)) res) : Ev 3 25 0 [some (.ref 44), none, none, none, none, none] [] (hs E (jm N)) res := by
  refine w25_0 ?_
  exact Ev_to (clx (cli jl_0 (cli jl_0 (clx (clx (clx rfl)))))) rfl rfl H
theorem v25_4 {E : gw_N} {N : NM} {res : Option Value × gw_H} {x1 : Int} {x2 : Int} (H : ((R (G40 N)) ∧ ((R x2) ∧ (((G40 N) ≤ x2 → res = (some (.int (J x1)), hs E (jm N))) ∧ (¬ (G40 N) ≤ x2 → (∃ (r1 : Int), Rn 13 [.ref 44, .int (J x2)] (hs E (jm N)) (some (.int (J r1))) (hs E (jm N)) ∧ ((Q103 N) ∧ Ev 3 25 32 [some (.ref 44), some (.int (J x1)), some (.int (J x2)), some (.int (J (r1 - (G103 N)))), some (.int (J 0)), none] [] (hs E (jm N)) res))))))) : Ev 3 25 4 [some (.ref 44), some (.int (J x1)), some (.int (J x2)), none, none, none] [] (hs E (jm N)) res := by
  refine w25_4 ?_
  obtain ⟨q1, q2, H⟩ := H
  refine ⟨fun hc => ?_, fun hc => ?_⟩
  · replace H := H.1 ((le_J ((congrArg F40 rfl).trans (t40)) rfl q1 q2).mp hc)
    exact H.trans (rt_i rfl rfl)
  · replace H := H.2 (fun hz => hc ((le_J ((congrArg F40 rfl).trans (t40)) rfl q1 q2).mpr hz))
    obtain ⟨r1, q4, H⟩ := H
    refine ⟨J r1, Rn_to (clx (cai rfl rfl)) rfl rfl q4, ?_⟩
    obtain ⟨q3, H⟩ := H
    refine ⟨Eq.mpr (congrArg P103 rfl) (p103 q3), ?_⟩
    exact Ev_to (clx (cli rfl (cli rfl (cli (sub_J rfl ((congrArg F103 rfl).trans (t103 q3))) (cli jl_0 (clx rfl)))))) rfl rfl H
theorem v25_32 {E : gw_N} {N : NM} {res : Option Value × gw_H} {x1 : Int} {x2 : Int} {x3 : Int} {x4 : Int} (H : ((R x3) ∧ ((x3 ≤ 0 → Ev 3 25 4 [some (.ref 44), some (.int (J x1)), some (.int (J (x2 + 1))), none, none, none] [] (hs E (jm N)) res) ∧ (¬ x3 ≤ 0 → ((R x4) ∧ (((12 : Int) ≤ x4 → Ev 3 25 4 [some (.ref 44), some (.int (J x1)), some (.int (J (x2 + 1))), none, none, none] [] (hs E (jm N)) res) ∧ (¬ (12 : Int) ≤ x4 → (∃ (r1 : Int) (N1 : NM), Rn 24 [.ref 44, .int (J x2), .int (J x3)] (hs E (jm N)) (some (.int (J r1))) (hs E (jm N1)) ∧ Ev 3 25 32 [some (.ref 44), some (.int (J (x1 + r1))), some (.int (J x2)), some (.int (J (x3 - r1))), some (.int (J (x4 + 1))), none] [] (hs E (jm N1)) res)))))))) : Ev 3 25 32 [some (.ref 44), some (.int (J x1)), some (.int (J x2)), some (.int (J x3)), some (.int (J x4)), none] [] (hs E (jm N)) res := by
  refine w25_32 ?_
  obtain ⟨q1, H⟩ := H
  refine ⟨fun hc => ?_, fun hc => ?_⟩
  · replace H := H.1 ((le_J rfl jl_0 q1 (by decide)).mp hc)
    exact Ev_to (clx (cli rfl (cli (add_J rfl jl_1) (clx (clx (clx rfl)))))) rfl rfl H
  · replace H := H.2 (fun hz => hc ((le_J rfl jl_0 q1 (by decide)).mpr hz))
    obtain ⟨q2, H⟩ := H
    refine ⟨fun hc => ?_, fun hc => ?_⟩
    · replace H := H.1 ((le_J jl_12 rfl (by decide) q2).mp hc)
      exact Ev_to (clx (cli rfl (cli (add_J rfl jl_1) (clx (clx (clx rfl)))))) rfl rfl H
    · replace H := H.2 (fun hz => hc ((le_J jl_12 rfl (by decide) q2).mpr hz))
      obtain ⟨r1, N1, q3, H⟩ := H
      refine ⟨J r1, jm N1, Rn_to (clx (cai rfl (cai rfl rfl))) rfl rfl q3, ?_⟩
      exact Ev_to (clx (cli (add_J rfl rfl) (cli rfl (cli (sub_J rfl rfl) (cli (add_J rfl jl_1) (clx rfl)))))) rfl rfl H
-- 33 GlassWires$Glass bearableHeat (I)I
theorem v33_0 {E : gw_N} {N : NM} {res : Option Value × gw_H} {x1 : Int} (H : Ev 3 33 6 [some (.ref 44), some (.int (J x1)), some (.int (J 999)), some (.int (J 0)), none] [] (hs E (jm N)) res) : Ev 3 33 0 [some (.ref 44), some (.int (J x1)), none, none, none] [] (hs E (jm N)) res := by
  refine w33_0 ?_
  exact Ev_to (clx (cli rfl (cli jl_999 (cli jl_0 (clx rfl))))) rfl rfl H
theorem v33_6 {E : gw_N} {N : NM} {res : Option Value × gw_H} {x1 : Int} {x2 : Int} {x3 : Int} (H : ((R (G40 N)) ∧ ((R x3) ∧ (((G40 N) ≤ x3 → res = (some (.int (J x2)), hs E (jm N))) ∧ (¬ (G40 N) ≤ x3 → ((Q15 N x3) ∧ ((Q4 N x3) ∧ ((R (G4 N x3)) ∧ ((R x1) ∧ (((G4 N x3) = x1 → ((R (G15 N x3)) ∧ (((G15 N x3) = (-1) → Ev 3 33 6 [some (.ref 44), some (.int (J x1)), some (.int (J x2)), some (.int (J (x3 + 1))), none] [] (hs E (jm N)) res) ∧ (¬ (G15 N x3) = (-1) → ((0 ≤ (G15 N x3) ∧ (G15 N x3) < 768) ∧ ((R ((N 48) (G15 N x3))) ∧ ((((N 48) (G15 N x3)) = 1 → ((Q100 N ((N 46) (G15 N x3))) ∧ ((Q312 N x2 (G100 N ((N 46) (G15 N x3)))) ∧ Ev 3 33 6 [some (.ref 44), some (.int (J x1)), some (.int (J (G312 N x2 (G100 N ((N 46) (G15 N x3)))))), some (.int (J (x3 + 1))), none] [] (hs E (jm N)) res))) ∧ (¬ ((N 48) (G15 N x3)) = 1 → Ev 3 33 6 [some (.ref 44), some (.int (J x1)), some (.int (J x2)), some (.int (J (x3 + 1))), none] [] (hs E (jm N)) res)))))))) ∧ (¬ (G4 N x3) = x1 → Ev 3 33 6 [some (.ref 44), some (.int (J x1)), some (.int (J x2)), some (.int (J (x3 + 1))), none] [] (hs E (jm N)) res))))))))))) : Ev 3 33 6 [some (.ref 44), some (.int (J x1)), some (.int (J x2)), some (.int (J x3)), none] [] (hs E (jm N)) res := by
  refine w33_6 ?_
  obtain ⟨q1, q2, H⟩ := H
  refine ⟨fun hc => ?_, fun hc => ?_⟩
  · replace H := H.1 ((le_J ((congrArg F40 rfl).trans (t40)) rfl q1 q2).mp hc)
    exact H.trans (rt_i rfl rfl)
  · replace H := H.2 (fun hz => hc ((le_J ((congrArg F40 rfl).trans (t40)) rfl q1 q2).mpr hz))
    obtain ⟨q3, H⟩ := H
    refine ⟨Eq.mpr (congr (congrArg P15 rfl) rfl) (p15 q3), ?_⟩
    obtain ⟨q4, H⟩ := H
    refine ⟨Eq.mpr (congr (congrArg P4 rfl) rfl) (p4 q4), ?_⟩
    obtain ⟨q5, q6, H⟩ := H
    refine ⟨fun hc => ?_, fun hc => ?_⟩
    · replace H := H.1 ((eq_J ((congr (congrArg F4 rfl) rfl).trans (t4 q4)) rfl q5 q6).mp hc)
      obtain ⟨q7, H⟩ := H
      refine ⟨fun hc => ?_, fun hc => ?_⟩
      · replace H := H.1 ((eq_J ((congr (congrArg F15 rfl) rfl).trans (t15 q3)) jl_m1 q7 (by decide)).mp hc)
        exact Ev_to (clx (cli rfl (cli rfl (cli (add_J rfl jl_1) (clx rfl))))) rfl rfl H
      · replace H := H.2 (fun hz => hc ((eq_J ((congr (congrArg F15 rfl) rfl).trans (t15 q3)) jl_m1 q7 (by decide)).mpr hz))
        obtain ⟨q8, H⟩ := H
        refine ⟨inb_J ((congr (congrArg F15 rfl) rfl).trans (t15 q3)) q8 (by decide), ?_⟩
        obtain ⟨q9, H⟩ := H
        refine ⟨fun hc => ?_, fun hc => ?_⟩
        · replace H := H.1 ((eq_J (rd_J (jf_base _ _) ((congr (congrArg F15 rfl) rfl).trans (t15 q3)) q8 (by decide)) jl_1 q9 (by decide)).mp hc)
          refine ⟨inb_J ((congr (congrArg F15 rfl) rfl).trans (t15 q3)) q8 (by decide), ?_⟩
          obtain ⟨q10, H⟩ := H
          refine ⟨Eq.mpr (congr (congrArg P100 rfl) (rd_J (jf_base _ _) ((congr (congrArg F15 rfl) rfl).trans (t15 q3)) q8 (by decide))) (p100 q10), ?_⟩
          obtain ⟨q11, H⟩ := H
          exact Ev_to (clx (cli rfl (cli ((congr (congr (congrArg F312 rfl) rfl) ((congr (congrArg F100 rfl) (rd_J (jf_base _ _) ((congr (congrArg F15 rfl) rfl).trans (t15 q3)) q8 (by decide))).trans (t100 q10))).trans (t312 q11)) (cli (add_J rfl jl_1) (clx rfl))))) rfl rfl H
        · replace H := H.2 (fun hz => hc ((eq_J (rd_J (jf_base _ _) ((congr (congrArg F15 rfl) rfl).trans (t15 q3)) q8 (by decide)) jl_1 q9 (by decide)).mpr hz))
          exact Ev_to (clx (cli rfl (cli rfl (cli (add_J rfl jl_1) (clx rfl))))) rfl rfl H
    · replace H := H.2 (fun hz => hc ((eq_J ((congr (congrArg F4 rfl) rfl).trans (t4 q4)) rfl q5 q6).mpr hz))
      exact Ev_to (clx (cli rfl (cli rfl (cli (add_J rfl jl_1) (clx rfl))))) rfl rfl H
-- 47 GlassWires$Grid between (II)I
theorem v47_0 {E : gw_N} {N : NM} {res : Option Value × gw_H} {x1 : Int} {x2 : Int} (H : ((0 ≤ x1 ∧ x1 < 64) ∧ ((R x2) ∧ ((x2 = 0 → ((x2 = 1 → ((x2 = 0 → res = (some (.int (J (G51 N (((N 10) x1) + 1) (((N 11) x1) + 1) 1))), hs E (jm N))) ∧ (¬ x2 = 0 → ((x2 = 2 → res = (some (.int (J (G51 N (((N 10) x1) + 1) (((N 11) x1) + 1) 1))), hs E (jm N))) ∧ (¬ x2 = 2 → res = (some (.int (J (G51 N (((N 10) x1) + 1) (((N 11) x1) + 1) 0))), hs E (jm N))))))) ∧ (¬ x2 = 1 → ((x2 = 0 → res = (some (.int (J (G51 N (((N 10) x1) + 1) (((N 11) x1) + 0) 1))), hs E (jm N))) ∧ (¬ x2 = 0 → ((x2 = 2 → res = (some (.int (J (G51 N (((N 10) x1) + 1) (((N 11) x1) + 0) 1))), hs E (jm N))) ∧ (¬ x2 = 2 → res = (some (.int (J (G51 N (((N 10) x1) + 1) (((N 11) x1) + 0) 0))), hs E (jm N))))))))) ∧ (¬ x2 = 0 → ((x2 = 1 → ((x2 = 0 → res = (some (.int (J (G51 N (((N 10) x1) + 0) (((N 11) x1) + 1) 1))), hs E (jm N))) ∧ (¬ x2 = 0 → ((x2 = 2 → res = (some (.int (J (G51 N (((N 10) x1) + 0) (((N 11) x1) + 1) 1))), hs E (jm N))) ∧ (¬ x2 = 2 → res = (some (.int (J (G51 N (((N 10) x1) + 0) (((N 11) x1) + 1) 0))), hs E (jm N))))))) ∧ (¬ x2 = 1 → ((x2 = 0 → res = (some (.int (J (G51 N (((N 10) x1) + 0) (((N 11) x1) + 0) 1))), hs E (jm N))) ∧ (¬ x2 = 0 → ((x2 = 2 → res = (some (.int (J (G51 N (((N 10) x1) + 0) (((N 11) x1) + 0) 1))), hs E (jm N))) ∧ (¬ x2 = 2 → res = (some (.int (J (G51 N (((N 10) x1) + 0) (((N 11) x1) + 0) 0))), hs E (jm N))))))))))))) : Ev 3 47 0 [some (.ref 9), some (.int (J x1)), some (.int (J x2)), none, none] [] (hs E (jm N)) res := by
  refine w47_0 ?_
  obtain ⟨q1, H⟩ := H
  refine ⟨inb_J rfl q1 (by decide), ?_⟩
  obtain ⟨q2, H⟩ := H
  refine ⟨fun hc => ?_, fun hc => ?_⟩
  · replace H := H.1 ((eq_J rfl jl_0 q2 (by decide)).mp hc)
    refine ⟨inb_J rfl q1 (by decide), ?_⟩
    refine ⟨fun hc => ?_, fun hc => ?_⟩
    · replace H := H.1 ((eq_J rfl jl_1 q2 (by decide)).mp hc)
      refine ⟨fun hc => ?_, fun hc => ?_⟩
      · replace H := H.1 ((eq_J rfl jl_0 q2 (by decide)).mp hc)
        exact H.trans (rt_i ((congr (congr (congr (congrArg F51 rfl) (add_J (rd_J (jf_base _ _) rfl q1 (by decide)) jl_1)) (add_J (rd_J (jf_base _ _) rfl q1 (by decide)) jl_1)) jl_1).trans (t51)) rfl)
      · replace H := H.2 (fun hz => hc ((eq_J rfl jl_0 q2 (by decide)).mpr hz))
        refine ⟨fun hc => ?_, fun hc => ?_⟩
        · replace H := H.1 ((eq_J rfl jl_2 q2 (by decide)).mp hc)
          exact H.trans (rt_i ((congr (congr (congr (congrArg F51 rfl) (add_J (rd_J (jf_base _ _) rfl q1 (by decide)) jl_1)) (add_J (rd_J (jf_base _ _) rfl q1 (by decide)) jl_1)) jl_1).trans (t51)) rfl)
        · replace H := H.2 (fun hz => hc ((eq_J rfl jl_2 q2 (by decide)).mpr hz))
          exact H.trans (rt_i ((congr (congr (congr (congrArg F51 rfl) (add_J (rd_J (jf_base _ _) rfl q1 (by decide)) jl_1)) (add_J (rd_J (jf_base _ _) rfl q1 (by decide)) jl_1)) jl_0).trans (t51)) rfl)
    · replace H := H.2 (fun hz => hc ((eq_J rfl jl_1 q2 (by decide)).mpr hz))
      refine ⟨fun hc => ?_, fun hc => ?_⟩
      · replace H := H.1 ((eq_J rfl jl_0 q2 (by decide)).mp hc)
        exact H.trans (rt_i ((congr (congr (congr (congrArg F51 rfl) (add_J (rd_J (jf_base _ _) rfl q1 (by decide)) jl_1)) (add_J (rd_J (jf_base _ _) rfl q1 (by decide)) jl_0)) jl_1).trans (t51)) rfl)
      · replace H := H.2 (fun hz => hc ((eq_J rfl jl_0 q2 (by decide)).mpr hz))
        refine ⟨fun hc => ?_, fun hc => ?_⟩
        · replace H := H.1 ((eq_J rfl jl_2 q2 (by decide)).mp hc)
          exact H.trans (rt_i ((congr (congr (congr (congrArg F51 rfl) (add_J (rd_J (jf_base _ _) rfl q1 (by decide)) jl_1)) (add_J (rd_J (jf_base _ _) rfl q1 (by decide)) jl_0)) jl_1).trans (t51)) rfl)
        · replace H := H.2 (fun hz => hc ((eq_J rfl jl_2 q2 (by decide)).mpr hz))
          exact H.trans (rt_i ((congr (congr (congr (congrArg F51 rfl) (add_J (rd_J (jf_base _ _) rfl q1 (by decide)) jl_1)) (add_J (rd_J (jf_base _ _) rfl q1 (by decide)) jl_0)) jl_0).trans (t51)) rfl)
  · replace H := H.2 (fun hz => hc ((eq_J rfl jl_0 q2 (by decide)).mpr hz))
    refine ⟨inb_J rfl q1 (by decide), ?_⟩
    refine ⟨fun hc => ?_, fun hc => ?_⟩
    · replace H := H.1 ((eq_J rfl jl_1 q2 (by decide)).mp hc)
      refine ⟨fun hc => ?_, fun hc => ?_⟩
      · replace H := H.1 ((eq_J rfl jl_0 q2 (by decide)).mp hc)
        exact H.trans (rt_i ((congr (congr (congr (congrArg F51 rfl) (add_J (rd_J (jf_base _ _) rfl q1 (by decide)) jl_0)) (add_J (rd_J (jf_base _ _) rfl q1 (by decide)) jl_1)) jl_1).trans (t51)) rfl)
      · replace H := H.2 (fun hz => hc ((eq_J rfl jl_0 q2 (by decide)).mpr hz))
        refine ⟨fun hc => ?_, fun hc => ?_⟩
        · replace H := H.1 ((eq_J rfl jl_2 q2 (by decide)).mp hc)
          exact H.trans (rt_i ((congr (congr (congr (congrArg F51 rfl) (add_J (rd_J (jf_base _ _) rfl q1 (by decide)) jl_0)) (add_J (rd_J (jf_base _ _) rfl q1 (by decide)) jl_1)) jl_1).trans (t51)) rfl)
        · replace H := H.2 (fun hz => hc ((eq_J rfl jl_2 q2 (by decide)).mpr hz))
          exact H.trans (rt_i ((congr (congr (congr (congrArg F51 rfl) (add_J (rd_J (jf_base _ _) rfl q1 (by decide)) jl_0)) (add_J (rd_J (jf_base _ _) rfl q1 (by decide)) jl_1)) jl_0).trans (t51)) rfl)
    · replace H := H.2 (fun hz => hc ((eq_J rfl jl_1 q2 (by decide)).mpr hz))
      refine ⟨fun hc => ?_, fun hc => ?_⟩
      · replace H := H.1 ((eq_J rfl jl_0 q2 (by decide)).mp hc)
        exact H.trans (rt_i ((congr (congr (congr (congrArg F51 rfl) (add_J (rd_J (jf_base _ _) rfl q1 (by decide)) jl_0)) (add_J (rd_J (jf_base _ _) rfl q1 (by decide)) jl_0)) jl_1).trans (t51)) rfl)
      · replace H := H.2 (fun hz => hc ((eq_J rfl jl_0 q2 (by decide)).mpr hz))
        refine ⟨fun hc => ?_, fun hc => ?_⟩
        · replace H := H.1 ((eq_J rfl jl_2 q2 (by decide)).mp hc)
          exact H.trans (rt_i ((congr (congr (congr (congrArg F51 rfl) (add_J (rd_J (jf_base _ _) rfl q1 (by decide)) jl_0)) (add_J (rd_J (jf_base _ _) rfl q1 (by decide)) jl_0)) jl_1).trans (t51)) rfl)
        · replace H := H.2 (fun hz => hc ((eq_J rfl jl_2 q2 (by decide)).mpr hz))
          exact H.trans (rt_i ((congr (congr (congr (congrArg F51 rfl) (add_J (rd_J (jf_base _ _) rfl q1 (by decide)) jl_0)) (add_J (rd_J (jf_base _ _) rfl q1 (by decide)) jl_0)) jl_0).trans (t51)) rfl)
def G47 (N : NM) (x1 : Int) (x2 : Int) : Int := (if x2 = 0 then (if x2 = 1 then (if x2 = 0 then (G51 N (((N 10) x1) + 1) (((N 11) x1) + 1) 1) else (if x2 = 2 then (G51 N (((N 10) x1) + 1) (((N 11) x1) + 1) 1) else (G51 N (((N 10) x1) + 1) (((N 11) x1) + 1) 0))) else (if x2 = 0 then (G51 N (((N 10) x1) + 1) (((N 11) x1) + 0) 1) else (if x2 = 2 then (G51 N (((N 10) x1) + 1) (((N 11) x1) + 0) 1) else (G51 N (((N 10) x1) + 1) (((N 11) x1) + 0) 0)))) else (if x2 = 1 then (if x2 = 0 then (G51 N (((N 10) x1) + 0) (((N 11) x1) + 1) 1) else (if x2 = 2 then (G51 N (((N 10) x1) + 0) (((N 11) x1) + 1) 1) else (G51 N (((N 10) x1) + 0) (((N 11) x1) + 1) 0))) else (if x2 = 0 then (G51 N (((N 10) x1) + 0) (((N 11) x1) + 0) 1) else (if x2 = 2 then (G51 N (((N 10) x1) + 0) (((N 11) x1) + 0) 1) else (G51 N (((N 10) x1) + 0) (((N 11) x1) + 0) 0)))))
def Q47 (N : NM) (x1 : Int) (x2 : Int) : Prop := ((0 ≤ x1 ∧ x1 < 64) ∧ ((R x2) ∧ ((x2 = 0 → ((x2 = 1 → ((x2 = 0 → True) ∧ (¬ x2 = 0 → ((x2 = 2 → True) ∧ (¬ x2 = 2 → True))))) ∧ (¬ x2 = 1 → ((x2 = 0 → True) ∧ (¬ x2 = 0 → ((x2 = 2 → True) ∧ (¬ x2 = 2 → True))))))) ∧ (¬ x2 = 0 → ((x2 = 1 → ((x2 = 0 → True) ∧ (¬ x2 = 0 → ((x2 = 2 → True) ∧ (¬ x2 = 2 → True))))) ∧ (¬ x2 = 1 → ((x2 = 0 → True) ∧ (¬ x2 = 0 → ((x2 = 2 → True) ∧ (¬ x2 = 2 → True))))))))))
theorem t47 {N : NM} {x1 : Int} {x2 : Int} (H : Q47 N x1 x2) : F47 (jm N) (J x1) (J x2) = J (G47 N x1 x2) := by
  unfold Q47 at H
  unfold F47 G47
  obtain ⟨q1, H⟩ := H
  obtain ⟨q2, H⟩ := H
  refine ite_J (eq_J rfl jl_0 q2 (by decide)) (fun hc => ?_) (fun hc => ?_)
  · replace H := H.1 ((eq_J rfl jl_0 q2 (by decide)).mp hc)
    refine ite_J (eq_J rfl jl_1 q2 (by decide)) (fun hc => ?_) (fun hc => ?_)
    · replace H := H.1 ((eq_J rfl jl_1 q2 (by decide)).mp hc)
      refine ite_J (eq_J rfl jl_0 q2 (by decide)) (fun hc => ?_) (fun hc => ?_)
      · replace H := H.1 ((eq_J rfl jl_0 q2 (by decide)).mp hc)
        exact ((congr (congr (congr (congrArg F51 rfl) (add_J (rd_J (jf_base _ _) rfl q1 (by decide)) jl_1)) (add_J (rd_J (jf_base _ _) rfl q1 (by decide)) jl_1)) jl_1).trans (t51))
      · replace H := H.2 (fun hz => hc ((eq_J rfl jl_0 q2 (by decide)).mpr hz))
        refine ite_J (eq_J rfl jl_2 q2 (by decide)) (fun hc => ?_) (fun hc => ?_)
        · replace H := H.1 ((eq_J rfl jl_2 q2 (by decide)).mp hc)
          exact ((congr (congr (congr (congrArg F51 rfl) (add_J (rd_J (jf_base _ _) rfl q1 (by decide)) jl_1)) (add_J (rd_J (jf_base _ _) rfl q1 (by decide)) jl_1)) jl_1).trans (t51))
        · replace H := H.2 (fun hz => hc ((eq_J rfl jl_2 q2 (by decide)).mpr hz))
          exact ((congr (congr (congr (congrArg F51 rfl) (add_J (rd_J (jf_base _ _) rfl q1 (by decide)) jl_1)) (add_J (rd_J (jf_base _ _) rfl q1 (by decide)) jl_1)) jl_0).trans (t51))
    · replace H := H.2 (fun hz => hc ((eq_J rfl jl_1 q2 (by decide)).mpr hz))
      refine ite_J (eq_J rfl jl_0 q2 (by decide)) (fun hc => ?_) (fun hc => ?_)
      · replace H := H.1 ((eq_J rfl jl_0 q2 (by decide)).mp hc)
        exact ((congr (congr (congr (congrArg F51 rfl) (add_J (rd_J (jf_base _ _) rfl q1 (by decide)) jl_1)) (add_J (rd_J (jf_base _ _) rfl q1 (by decide)) jl_0)) jl_1).trans (t51))
      · replace H := H.2 (fun hz => hc ((eq_J rfl jl_0 q2 (by decide)).mpr hz))
        refine ite_J (eq_J rfl jl_2 q2 (by decide)) (fun hc => ?_) (fun hc => ?_)
        · replace H := H.1 ((eq_J rfl jl_2 q2 (by decide)).mp hc)
          exact ((congr (congr (congr (congrArg F51 rfl) (add_J (rd_J (jf_base _ _) rfl q1 (by decide)) jl_1)) (add_J (rd_J (jf_base _ _) rfl q1 (by decide)) jl_0)) jl_1).trans (t51))
        · replace H := H.2 (fun hz => hc ((eq_J rfl jl_2 q2 (by decide)).mpr hz))
          exact ((congr (congr (congr (congrArg F51 rfl) (add_J (rd_J (jf_base _ _) rfl q1 (by decide)) jl_1)) (add_J (rd_J (jf_base _ _) rfl q1 (by decide)) jl_0)) jl_0).trans (t51))
  · replace H := H.2 (fun hz => hc ((eq_J rfl jl_0 q2 (by decide)).mpr hz))
    refine ite_J (eq_J rfl jl_1 q2 (by decide)) (fun hc => ?_) (fun hc => ?_)
    · replace H := H.1 ((eq_J rfl jl_1 q2 (by decide)).mp hc)
      refine ite_J (eq_J rfl jl_0 q2 (by decide)) (fun hc => ?_) (fun hc => ?_)
      · replace H := H.1 ((eq_J rfl jl_0 q2 (by decide)).mp hc)
        exact ((congr (congr (congr (congrArg F51 rfl) (add_J (rd_J (jf_base _ _) rfl q1 (by decide)) jl_0)) (add_J (rd_J (jf_base _ _) rfl q1 (by decide)) jl_1)) jl_1).trans (t51))
      · replace H := H.2 (fun hz => hc ((eq_J rfl jl_0 q2 (by decide)).mpr hz))
        refine ite_J (eq_J rfl jl_2 q2 (by decide)) (fun hc => ?_) (fun hc => ?_)
        · replace H := H.1 ((eq_J rfl jl_2 q2 (by decide)).mp hc)
          exact ((congr (congr (congr (congrArg F51 rfl) (add_J (rd_J (jf_base _ _) rfl q1 (by decide)) jl_0)) (add_J (rd_J (jf_base _ _) rfl q1 (by decide)) jl_1)) jl_1).trans (t51))
        · replace H := H.2 (fun hz => hc ((eq_J rfl jl_2 q2 (by decide)).mpr hz))
          exact ((congr (congr (congr (congrArg F51 rfl) (add_J (rd_J (jf_base _ _) rfl q1 (by decide)) jl_0)) (add_J (rd_J (jf_base _ _) rfl q1 (by decide)) jl_1)) jl_0).trans (t51))
    · replace H := H.2 (fun hz => hc ((eq_J rfl jl_1 q2 (by decide)).mpr hz))
      refine ite_J (eq_J rfl jl_0 q2 (by decide)) (fun hc => ?_) (fun hc => ?_)
      · replace H := H.1 ((eq_J rfl jl_0 q2 (by decide)).mp hc)
        exact ((congr (congr (congr (congrArg F51 rfl) (add_J (rd_J (jf_base _ _) rfl q1 (by decide)) jl_0)) (add_J (rd_J (jf_base _ _) rfl q1 (by decide)) jl_0)) jl_1).trans (t51))
      · replace H := H.2 (fun hz => hc ((eq_J rfl jl_0 q2 (by decide)).mpr hz))
        refine ite_J (eq_J rfl jl_2 q2 (by decide)) (fun hc => ?_) (fun hc => ?_)
        · replace H := H.1 ((eq_J rfl jl_2 q2 (by decide)).mp hc)
          exact ((congr (congr (congr (congrArg F51 rfl) (add_J (rd_J (jf_base _ _) rfl q1 (by decide)) jl_0)) (add_J (rd_J (jf_base _ _) rfl q1 (by decide)) jl_0)) jl_1).trans (t51))
        · replace H := H.2 (fun hz => hc ((eq_J rfl jl_2 q2 (by decide)).mpr hz))
          exact ((congr (congr (congr (congrArg F51 rfl) (add_J (rd_J (jf_base _ _) rfl q1 (by decide)) jl_0)) (add_J (rd_J (jf_base _ _) rfl q1 (by decide)) jl_0)) jl_0).trans (t51))
theorem p47 {N : NM} {x1 : Int} {x2 : Int} (H : Q47 N x1 x2) : P47 (jm N) (J x1) (J x2) := by
  unfold Q47 at H
  unfold P47
  obtain ⟨q1, H⟩ := H
  refine ⟨inb_J rfl q1 (by decide), ?_⟩
  obtain ⟨q2, H⟩ := H
  refine ⟨fun hc => ?_, fun hc => ?_⟩
  · replace H := H.1 ((eq_J rfl jl_0 q2 (by decide)).mp hc)
    exact inb_J rfl q1 (by decide)
  · replace H := H.2 (fun hz => hc ((eq_J rfl jl_0 q2 (by decide)).mpr hz))
    exact inb_J rfl q1 (by decide)
theorem sz47 {E : gw_N} {N : NM} {x1 : Int} {x2 : Int} (H : Q47 N x1 x2) : Rn 47 [.ref 9, .int (J x1), .int (J x2)] (hs E (jm N)) (some (.int (J (G47 N x1 x2)))) (hs E (jm N)) := by
  have h := s47 (E := E) (M := jm N) (x1 := J x1) (x2 := J x2) (p47 H)
  rw [t47 H] at h
  exact h
-- 52 GlassWires$Grid edgeOfMove (III)I
theorem v52_0 {E : gw_N} {N : NM} {res : Option Value × gw_H} {x0 : Int} {x1 : Int} {x2 : Int} (H : ((R x2) ∧ ((x2 = 2 → res = (some (.int (J (G51 N (x0 - 1) x1 0))), hs E (jm N))) ∧ (x2 = 3 → res = (some (.int (J (G51 N x0 (x1 - 1) 1))), hs E (jm N))) ∧ (¬ x2 = 2 → ¬ x2 = 3 → res = (some (.int (J (G51 N x0 x1 x2))), hs E (jm N)))))) : Ev 3 52 0 [some (.int (J x0)), some (.int (J x1)), some (.int (J x2))] [] (hs E (jm N)) res := by
  refine w52_0 ?_
  obtain ⟨q1, H⟩ := H
  refine ⟨fun hc => ?_, fun hc => ?_, fun hc0 hc1 => ?_⟩
  · replace H := (H.1) ((eq_J rfl jl_2 q1 (by decide)).mp hc)
    exact H.trans (rt_i ((congr (congr (congr (congrArg F51 rfl) (sub_J rfl jl_1)) rfl) jl_0).trans (t51)) rfl)
  · replace H := (H.2.1) ((eq_J rfl jl_3 q1 (by decide)).mp hc)
    exact H.trans (rt_i ((congr (congr (congr (congrArg F51 rfl) rfl) (sub_J rfl jl_1)) jl_1).trans (t51)) rfl)
  · replace H := (H.2.2) (fun hz => hc0 ((eq_J rfl jl_2 q1 (by decide)).mpr hz)) (fun hz => hc1 ((eq_J rfl jl_3 q1 (by decide)).mpr hz))
    exact H.trans (rt_i ((congr (congr (congr (congrArg F51 rfl) rfl) rfl) rfl).trans (t51)) rfl)
def G52 (N : NM) (x0 : Int) (x1 : Int) (x2 : Int) : Int := (if x2 = 2 then (G51 N (x0 - 1) x1 0) else (if x2 = 3 then (G51 N x0 (x1 - 1) 1) else (G51 N x0 x1 x2)))
def Q52 (N : NM) (x0 : Int) (x1 : Int) (x2 : Int) : Prop := ((R x2) ∧ ((x2 = 2 → True) ∧ (¬ x2 = 2 → ((x2 = 3 → True) ∧ (¬ x2 = 3 → True)))))
theorem t52 {N : NM} {x0 : Int} {x1 : Int} {x2 : Int} (H : Q52 N x0 x1 x2) : F52 (jm N) (J x0) (J x1) (J x2) = J (G52 N x0 x1 x2) := by
  unfold Q52 at H
  unfold F52 G52
  obtain ⟨q1, H⟩ := H
  refine ite_J (eq_J rfl jl_2 q1 (by decide)) (fun hc => ?_) (fun hc => ?_)
  · replace H := H.1 ((eq_J rfl jl_2 q1 (by decide)).mp hc)
    exact ((congr (congr (congr (congrArg F51 rfl) (sub_J rfl jl_1)) rfl) jl_0).trans (t51))
  · replace H := H.2 (fun hz => hc ((eq_J rfl jl_2 q1 (by decide)).mpr hz))
    refine ite_J (eq_J rfl jl_3 q1 (by decide)) (fun hc => ?_) (fun hc => ?_)
    · replace H := H.1 ((eq_J rfl jl_3 q1 (by decide)).mp hc)
      exact ((congr (congr (congr (congrArg F51 rfl) rfl) (sub_J rfl jl_1)) jl_1).trans (t51))
    · replace H := H.2 (fun hz => hc ((eq_J rfl jl_3 q1 (by decide)).mpr hz))
      exact ((congr (congr (congr (congrArg F51 rfl) rfl) rfl) rfl).trans (t51))
theorem sz52 {E : gw_N} {N : NM} {x0 : Int} {x1 : Int} {x2 : Int} (H : Q52 N x0 x1 x2) : Rn 52 [.int (J x0), .int (J x1), .int (J x2)] (hs E (jm N)) (some (.int (J (G52 N x0 x1 x2)))) (hs E (jm N)) := by
  have h := s52 (E := E) (M := jm N) (x0 := J x0) (x1 := J x1) (x2 := J x2)
  rw [t52 H] at h
  exact h
-- 58 GlassWires$Net put (I)V
theorem v58_0 {E : gw_N} {N : NM} {res : Option Value × gw_H} {x1 : Int} (H : ((Q153 N x1 0) ∧ (∃ (N1 : NM), Rn 59 [.ref 22, .int (J x1), .int (J (G153 N x1 0))] (hs E (jm N)) none (hs E (jm N1)) ∧ Ev 3 58 16 [some (.ref 22), some (.int (J x1)), some (.int (J 0))] [] (hs E (jm N1)) res))) : Ev 3 58 0 [some (.ref 22), some (.int (J x1)), none] [] (hs E (jm N)) res := by
  refine w58_0 ?_
  obtain ⟨q1, H⟩ := H
  refine ⟨Eq.mpr (congr (congr (congrArg P153 rfl) rfl) jl_0) (p153 q1), ?_⟩
  obtain ⟨N1, q2, H⟩ := H
  refine ⟨jm N1, Rn_to (clx (cai rfl (cai ((congr (congr (congrArg F153 rfl) rfl) jl_0).trans (t153 q1)) rfl))) rfl rfl q2, ?_⟩
  exact Ev_to (clx (cli rfl (cli jl_0 rfl))) rfl rfl H
theorem v58_16 {E : gw_N} {N : NM} {res : Option Value × gw_H} {x1 : Int} {x2 : Int} (H : ((Q149 N x1) ∧ ((R (G149 N x1)) ∧ ((R x2) ∧ (((G149 N x1) ≤ x2 → res = (none, hs E (jm N))) ∧ (¬ (G149 N x1) ≤ x2 → ((Q153 N x1 (x2 + 1)) ∧ (∃ (N1 : NM), Rn 59 [.ref 22, .int (J x1), .int (J (G153 N x1 (x2 + 1)))] (hs E (jm N)) none (hs E (jm N1)) ∧ ((Q154 N1 x1 x2) ∧ (∃ (N2 : NM), Rn 60 [.ref 22, .int (J x1), .int (J (G154 N1 x1 x2))] (hs E (jm N1)) none (hs E (jm N2)) ∧ Ev 3 58 16 [some (.ref 22), some (.int (J x1)), some (.int (J (x2 + 1)))] [] (hs E (jm N2)) res)))))))))) : Ev 3 58 16 [some (.ref 22), some (.int (J x1)), some (.int (J x2))] [] (hs E (jm N)) res := by
  refine w58_16 ?_
  obtain ⟨q1, H⟩ := H
  refine ⟨Eq.mpr (congr (congrArg P149 rfl) rfl) (p149 q1), ?_⟩
  obtain ⟨q2, q3, H⟩ := H
  refine ⟨fun hc => ?_, fun hc => ?_⟩
  · replace H := H.1 ((le_J ((congr (congrArg F149 rfl) rfl).trans (t149 q1)) rfl q2 q3).mp hc)
    exact H.trans (rt_n rfl)
  · replace H := H.2 (fun hz => hc ((le_J ((congr (congrArg F149 rfl) rfl).trans (t149 q1)) rfl q2 q3).mpr hz))
    obtain ⟨q4, H⟩ := H
    refine ⟨Eq.mpr (congr (congr (congrArg P153 rfl) rfl) (add_J rfl jl_1)) (p153 q4), ?_⟩
    obtain ⟨N1, q7, H⟩ := H
    refine ⟨jm N1, Rn_to (clx (cai rfl (cai ((congr (congr (congrArg F153 rfl) rfl) (add_J rfl jl_1)).trans (t153 q4)) rfl))) rfl rfl q7, ?_⟩
    obtain ⟨q5, H⟩ := H
    refine ⟨Eq.mpr (congr (congr (congrArg P154 rfl) rfl) rfl) (p154 q5), ?_⟩
    obtain ⟨N2, q6, H⟩ := H
    refine ⟨jm N2, Rn_to (clx (cai rfl (cai ((congr (congr (congrArg F154 rfl) rfl) rfl).trans (t154 q5)) rfl))) rfl rfl q6, ?_⟩
    exact Ev_to (clx (cli rfl (cli (add_J rfl jl_1) rfl))) rfl rfl H
-- 61 GlassWires$Net holdWires ()V
theorem v61_0 {E : gw_N} {N : NM} {res : Option Value × gw_H}  (H : (∃ (N1 : NM), Rn 313 [.ref 28, .int (J 0)] (hs E (jm N)) none (hs E (jm N1)) ∧ (∃ (N2 : NM), Rn 313 [.ref 29, .int (J 0)] (hs E (jm N1)) none (hs E (jm N2)) ∧ Ev 3 61 20 [some (.ref 22), some (.int (J 1)), some (.int (J 0)), none] [] (hs E (jm N2)) res))) : Ev 3 61 0 [some (.ref 22), none, none, none] [] (hs E (jm N)) res := by
  refine w61_0 ?_
  obtain ⟨N1, q2, H⟩ := H
  refine ⟨jm N1, Rn_to (clx (cai jl_0 rfl)) rfl rfl q2, ?_⟩
  obtain ⟨N2, q1, H⟩ := H
  refine ⟨jm N2, Rn_to (clx (cai jl_0 rfl)) rfl rfl q1, ?_⟩
  exact Ev_to (clx (cli jl_1 (cli jl_0 (clx rfl)))) rfl rfl H
theorem v61_20 {E : gw_N} {N : NM} {res : Option Value × gw_H} {x1 : Int} {x2 : Int} (H : ((R x1) ∧ ((x1 = 0 → res = (none, hs E (jm N))) ∧ (¬ x1 = 0 → ((R x2) ∧ (((30 : Int) < x2 → res = (none, hs E (jm N))) ∧ (¬ (30 : Int) < x2 → Ev 3 61 34 [some (.ref 22), some (.int (J 0)), some (.int (J x2)), some (.int (J 0))] [] (hs E (jm N)) res))))))) : Ev 3 61 20 [some (.ref 22), some (.int (J x1)), some (.int (J x2)), none] [] (hs E (jm N)) res := by
  refine w61_20 ?_
  obtain ⟨q1, H⟩ := H
  refine ⟨fun hc => ?_, fun hc => ?_⟩
  · replace H := H.1 ((eq_J rfl jl_0 q1 (by decide)).mp hc)
    exact H.trans (rt_n rfl)
  · replace H := H.2 (fun hz => hc ((eq_J rfl jl_0 q1 (by decide)).mpr hz))
    obtain ⟨q2, H⟩ := H
    refine ⟨fun hc => ?_, fun hc => ?_⟩
    · replace H := H.1 ((lt_J jl_30 rfl (by decide) q2).mp hc)
      exact H.trans (rt_n rfl)
    · replace H := H.2 (fun hz => hc ((lt_J jl_30 rfl (by decide) q2).mpr hz))
      exact Ev_to (clx (cli jl_0 (cli rfl (cli jl_0 rfl)))) rfl rfl H
theorem v61_34 {E : gw_N} {N : NM} {res : Option Value × gw_H} {x1 : Int} {x2 : Int} {x3 : Int} (H : ((R (G143 N)) ∧ ((R x3) ∧ (((G143 N) ≤ x3 → Ev 3 61 20 [some (.ref 22), some (.int (J x1)), some (.int (J (x2 + 1))), none] [] (hs E (jm N)) res) ∧ (¬ (G143 N) ≤ x3 → ((Q145 N x3) ∧ ((R (G145 N x3)) ∧ (((G145 N x3) = 0 → Ev 3 61 34 [some (.ref 22), some (.int (J x1)), some (.int (J x2)), some (.int (J (x3 + 1)))] [] (hs E (jm N)) res) ∧ (¬ (G145 N x3) = 0 → ((0 ≤ x3 ∧ x3 < 30) ∧ ((R ((N 28) x3)) ∧ ((((N 28) x3) = 0 → (∃ (r1 : Int), Rn 62 [.ref 22, .int (J x3)] (hs E (jm N)) (some (.int (J r1))) (hs E (jm N)) ∧ ((R r1) ∧ ((r1 = 0 → Ev 3 61 34 [some (.ref 22), some (.int (J x1)), some (.int (J x2)), some (.int (J (x3 + 1)))] [] (hs E (jm N)) res) ∧ (¬ r1 = 0 → (∃ (N2 : NM), Rn 63 [.ref 22, .int (J x3)] (hs E (jm N)) none (hs E (jm N2)) ∧ Ev 3 61 34 [some (.ref 22), some (.int (J 1)), some (.int (J x2)), some (.int (J (x3 + 1)))] [] (hs E (jm N2)) res)))))) ∧ (¬ ((N 28) x3) = 0 → Ev 3 61 34 [some (.ref 22), some (.int (J x1)), some (.int (J x2)), some (.int (J (x3 + 1)))] [] (hs E (jm N)) res))))))))))))) : Ev 3 61 34 [some (.ref 22), some (.int (J x1)), some (.int (J x2)), some (.int (J x3))] [] (hs E (jm N)) res := by
  refine w61_34 ?_
  obtain ⟨q1, q2, H⟩ := H
  refine ⟨fun hc => ?_, fun hc => ?_⟩
  · replace H := H.1 ((le_J ((congrArg F143 rfl).trans (t143)) rfl q1 q2).mp hc)
    exact Ev_to (clx (cli rfl (cli (add_J rfl jl_1) (clx rfl)))) rfl rfl H
  · replace H := H.2 (fun hz => hc ((le_J ((congrArg F143 rfl).trans (t143)) rfl q1 q2).mpr hz))
    obtain ⟨q3, H⟩ := H
    refine ⟨Eq.mpr (congr (congrArg P145 rfl) rfl) (p145 q3), ?_⟩
    obtain ⟨q4, H⟩ := H
    refine ⟨fun hc => ?_, fun hc => ?_⟩
    · replace H := H.1 ((eq_J ((congr (congrArg F145 rfl) rfl).trans (t145 q3)) jl_0 q4 (by decide)).mp hc)
      exact Ev_to (clx (cli rfl (cli rfl (cli (add_J rfl jl_1) rfl)))) rfl rfl H
    · replace H := H.2 (fun hz => hc ((eq_J ((congr (congrArg F145 rfl) rfl).trans (t145 q3)) jl_0 q4 (by decide)).mpr hz))
      obtain ⟨q5, H⟩ := H
      refine ⟨inb_J rfl q5 (by decide), ?_⟩
      obtain ⟨q6, H⟩ := H
      refine ⟨fun hc => ?_, fun hc => ?_⟩
      · replace H := H.1 ((eq_J (rd_J (jf_base _ _) rfl q5 (by decide)) jl_0 q6 (by decide)).mp hc)
        obtain ⟨r1, q9, H⟩ := H
        refine ⟨J r1, Rn_to (clx (cai rfl rfl)) rfl rfl q9, ?_⟩
        obtain ⟨q7, H⟩ := H
        refine ⟨fun hc => ?_, fun hc => ?_⟩
        · replace H := H.1 ((eq_J rfl jl_0 q7 (by decide)).mp hc)
          exact Ev_to (clx (cli rfl (cli rfl (cli (add_J rfl jl_1) rfl)))) rfl rfl H
        · replace H := H.2 (fun hz => hc ((eq_J rfl jl_0 q7 (by decide)).mpr hz))
          obtain ⟨N2, q8, H⟩ := H
          refine ⟨jm N2, Rn_to (clx (cai rfl rfl)) rfl rfl q8, ?_⟩
          exact Ev_to (clx (cli jl_1 (cli rfl (cli (add_J rfl jl_1) rfl)))) rfl rfl H
      · replace H := H.2 (fun hz => hc ((eq_J (rd_J (jf_base _ _) rfl q5 (by decide)) jl_0 q6 (by decide)).mpr hz))
        exact Ev_to (clx (cli rfl (cli rfl (cli (add_J rfl jl_1) rfl)))) rfl rfl H
-- 65 GlassWires$Net floating ()I
theorem v65_0 {E : gw_N} {N : NM} {res : Option Value × gw_H}  (H : Ev 3 65 4 [some (.ref 22), some (.int (J 0)), some (.int (J 0))] [] (hs E (jm N)) res) : Ev 3 65 0 [some (.ref 22), none, none] [] (hs E (jm N)) res := by
  refine w65_0 ?_
  exact Ev_to (clx (cli jl_0 (cli jl_0 rfl))) rfl rfl H
theorem v65_4 {E : gw_N} {N : NM} {res : Option Value × gw_H} {x1 : Int} {x2 : Int} (H : ((R (G143 N)) ∧ ((R x2) ∧ (((G143 N) ≤ x2 → res = (some (.int (J x1)), hs E (jm N))) ∧ (¬ (G143 N) ≤ x2 → ((Q64 N x2) ∧ ((Q206 N (G64 N x2)) ∧ Ev 3 65 4 [some (.ref 22), some (.int (J (x1 + (G206 N (G64 N x2))))), some (.int (J (x2 + 1)))] [] (hs E (jm N)) res))))))) : Ev 3 65 4 [some (.ref 22), some (.int (J x1)), some (.int (J x2))] [] (hs E (jm N)) res := by
  refine w65_4 ?_
  obtain ⟨q1, q2, H⟩ := H
  refine ⟨fun hc => ?_, fun hc => ?_⟩
  · replace H := H.1 ((le_J ((congrArg F143 rfl).trans (t143)) rfl q1 q2).mp hc)
    exact H.trans (rt_i rfl rfl)
  · replace H := H.2 (fun hz => hc ((le_J ((congrArg F143 rfl).trans (t143)) rfl q1 q2).mpr hz))
    obtain ⟨q3, H⟩ := H
    refine ⟨Eq.mpr (congr (congrArg P64 rfl) rfl) (p64 q3), ?_⟩
    obtain ⟨q4, H⟩ := H
    exact Ev_to (clx (cli (add_J rfl ((congr (congrArg F206 rfl) ((congr (congrArg F64 rfl) rfl).trans (t64 q3))).trans (t206 q4))) (cli (add_J rfl jl_1) rfl))) rfl rfl H
-- 80 GlassWires$Page add (J)I
theorem v80_0 {E : gw_N} {N : NM} {res : Option Value × gw_H} {x1 : Int64} (H : (∃ (r1 : Int), Rn 81 [.long x1] (hs E (jm N)) (some (.int (J r1))) (hs E (jm N)) ∧ ((R r1) ∧ ((r1 = (-1) → res = (some (.int (J (-102))), hs E (jm N))) ∧ (¬ r1 = (-1) → ((R (((N 12) 1) + r1)) ∧ (((((N 12) 1) + r1) ≤ 40 → Ev 3 80 30 [some (.ref 12), some (.long x1), none, some (.int (J r1)), some (.int (J 0))] [] (hs E (jm N)) res) ∧ (¬ (((N 12) 1) + r1) ≤ 40 → res = (some (.int (J (-104))), hs E (jm N)))))))))) : Ev 3 80 0 [some (.ref 12), some (.long x1), none, none, none] [] (hs E (jm N)) res := by
  refine w80_0 ?_
  obtain ⟨r1, q3, H⟩ := H
  refine ⟨J r1, Rn_to (cal rfl rfl) rfl rfl q3, ?_⟩
  obtain ⟨q1, H⟩ := H
  refine ⟨fun hc => ?_, fun hc => ?_⟩
  · replace H := H.1 ((eq_J rfl jl_m1 q1 (by decide)).mp hc)
    exact H.trans (rt_i jl_m102 rfl)
  · replace H := H.2 (fun hz => hc ((eq_J rfl jl_m1 q1 (by decide)).mpr hz))
    obtain ⟨q2, H⟩ := H
    refine ⟨fun hc => ?_, fun hc => ?_⟩
    · replace H := H.1 ((le_J (add_J (fld_J (jf_base _ _)) rfl) jl_40 q2 (by decide)).mp hc)
      exact Ev_to (clx (cll rfl (clx (cli rfl (cli jl_0 rfl))))) rfl rfl H
    · replace H := H.2 (fun hz => hc ((le_J (add_J (fld_J (jf_base _ _)) rfl) jl_40 q2 (by decide)).mpr hz))
      exact H.trans (rt_i jl_m104 rfl)
theorem v80_30 {E : gw_N} {N : NM} {res : Option Value × gw_H} {x1 : Int64} {x3 : Int} {x4 : Int} (H : ((R x3) ∧ ((R x4) ∧ ((x3 ≤ x4 → res = (some (.int (J ((updZ (N 12) 1 (((N 12) 1) + x3)) 1))), hs E (jm (upZ N 12 (updZ (N 12) 1 (((N 12) 1) + x3)))))) ∧ (¬ x3 ≤ x4 → ((0 ≤ (((N 12) 1) + x4) ∧ (((N 12) 1) + x4) < 40) ∧ Ev 3 80 30 [some (.ref 12), some (.long x1), none, some (.int (J x3)), some (.int (J (x4 + 1)))] [] (hs E (jm (upZ N 13 (updZ (N 13) (((N 12) 1) + x4) (G82 N x1 x4))))) res)))))) : Ev 3 80 30 [some (.ref 12), some (.long x1), none, some (.int (J x3)), some (.int (J x4))] [] (hs E (jm N)) res := by
  refine w80_30 ?_
  obtain ⟨q1, q2, H⟩ := H
  refine ⟨fun hc => ?_, fun hc => ?_⟩
  · replace H := H.1 ((le_J rfl rfl q1 q2).mp hc)
    exact H.trans (rt_i (fld_J (jf_updk (jf_base _ _) (add_J (fld_J (jf_base _ _)) rfl))) (jm_up rfl (jf_updk (jf_base _ _) (add_J (fld_J (jf_base _ _)) rfl))))
  · replace H := H.2 (fun hz => hc ((le_J rfl rfl q1 q2).mpr hz))
    obtain ⟨q3, H⟩ := H
    refine ⟨inb_J (add_J (fld_J (jf_base _ _)) rfl) q3 (by decide), ?_⟩
    exact Ev_to (clx (cll rfl (clx (cli rfl (cli (add_J rfl jl_1) rfl))))) rfl (jm_up rfl (jf_upd (jf_base _ _) (add_J (fld_J (jf_base _ _)) rfl) q3 (by decide) ((congr (congr (congrArg F82 rfl) rfl) rfl).trans (t82)))) H
-- 85 GlassWires$Page isWire (LGlassWires$Grid;II)Z
theorem v85_0 {E : gw_N} {N : NM} {res : Option Value × gw_H} {x2 : Int} {x3 : Int} (H : ((R ((N 12) 1)) ∧ ((((N 12) 1) ≤ 0 → res = (some (.int (J 0)), hs E (jm N))) ∧ (¬ ((N 12) 1) ≤ 0 → (∃ (r1 : Int), Rn 84 [.ref 12, .ref 9, .int (J x2), .int (J x3)] (hs E (jm N)) (some (.int (J r1))) (hs E (jm N)) ∧ ((R r1) ∧ ((r1 = ((N 12) 1) → res = (some (.int (J 1)), hs E (jm N))) ∧ (¬ r1 = ((N 12) 1) → res = (some (.int (J 0)), hs E (jm N)))))))))) : Ev 3 85 0 [some (.ref 12), some (.ref 9), some (.int (J x2)), some (.int (J x3))] [] (hs E (jm N)) res := by
  refine w85_0 ?_
  obtain ⟨q1, H⟩ := H
  refine ⟨fun hc => ?_, fun hc => ?_⟩
  · replace H := H.1 ((le_J (fld_J (jf_base _ _)) jl_0 q1 (by decide)).mp hc)
    exact H.trans (rt_i jl_0 rfl)
  · replace H := H.2 (fun hz => hc ((le_J (fld_J (jf_base _ _)) jl_0 q1 (by decide)).mpr hz))
    obtain ⟨r1, q3, H⟩ := H
    refine ⟨J r1, Rn_to (clx (clx (cai rfl (cai rfl rfl)))) rfl rfl q3, ?_⟩
    obtain ⟨q2, H⟩ := H
    refine ⟨fun hc => ?_, fun hc => ?_⟩
    · replace H := H.1 ((eq_J rfl (fld_J (jf_base _ _)) q2 q1).mp hc)
      exact H.trans (rt_i jl_1 rfl)
    · replace H := H.2 (fun hz => hc ((eq_J rfl (fld_J (jf_base _ _)) q2 q1).mpr hz))
      exact H.trans (rt_i jl_0 rfl)
-- 90 GlassWires$Painter findNear ()V
theorem v90_0 {E : gw_N} {N : NM} {res : Option Value × gw_H}  (H : (∃ (N1 : NM), Rn 313 [.ref 38, .int (J 0)] (hs E (jm N)) none (hs E (jm N1)) ∧ Ev 3 90 12 [some (.ref 36), some (.int (J 0)), some (.int (J 0)), none, none] [] (hs E (jm N1)) res)) : Ev 3 90 0 [some (.ref 36), none, none, none, none] [] (hs E (jm N)) res := by
  refine w90_0 ?_
  obtain ⟨N1, q1, H⟩ := H
  refine ⟨jm N1, Rn_to (clx (cai jl_0 rfl)) rfl rfl q1, ?_⟩
  exact Ev_to (clx (cli jl_0 (cli jl_0 (clx (clx rfl))))) rfl rfl H
theorem v90_12 {E : gw_N} {N : NM} {res : Option Value × gw_H} {x1 : Int} {x2 : Int} (H : ((R (G40 N)) ∧ ((R x2) ∧ (((G40 N) ≤ x2 → Ev 3 90 58 [some (.ref 36), none, some (.int (J 0)), none, none] [] (hs E (jm N)) res) ∧ (¬ (G40 N) ≤ x2 → ((Q5 N x2) ∧ ((R (G5 N x2)) ∧ (((G5 N x2) = 0 → Ev 3 90 12 [some (.ref 36), some (.int (J x1)), some (.int (J (x2 + 1))), none, none] [] (hs E (jm N)) res) ∧ (¬ (G5 N x2) = 0 → ((R x1) ∧ (((10 : Int) ≤ x1 → Ev 3 90 12 [some (.ref 36), some (.int (J x1)), some (.int (J (x2 + 1))), none, none] [] (hs E (jm N)) res) ∧ (¬ (10 : Int) ≤ x1 → ((0 ≤ x2 ∧ x2 < 64) ∧ Ev 3 90 12 [some (.ref 36), some (.int (J (x1 + 1))), some (.int (J (x2 + 1))), none, none] [] (hs E (jm (upZ N 37 (updZ (N 37) x2 x1)))) res))))))))))))) : Ev 3 90 12 [some (.ref 36), some (.int (J x1)), some (.int (J x2)), none, none] [] (hs E (jm N)) res := by
  refine w90_12 ?_
  obtain ⟨q1, q2, H⟩ := H
  refine ⟨fun hc => ?_, fun hc => ?_⟩
  · replace H := H.1 ((le_J ((congrArg F40 rfl).trans (t40)) rfl q1 q2).mp hc)
    exact Ev_to (clx (clx (cli jl_0 (clx (clx rfl))))) rfl rfl H
  · replace H := H.2 (fun hz => hc ((le_J ((congrArg F40 rfl).trans (t40)) rfl q1 q2).mpr hz))
    obtain ⟨q3, H⟩ := H
    refine ⟨Eq.mpr (congr (congrArg P5 rfl) rfl) (p5 q3), ?_⟩
    obtain ⟨q4, H⟩ := H
    refine ⟨fun hc => ?_, fun hc => ?_⟩
    · replace H := H.1 ((eq_J ((congr (congrArg F5 rfl) rfl).trans (t5 q3)) jl_0 q4 (by decide)).mp hc)
      exact Ev_to (clx (cli rfl (cli (add_J rfl jl_1) (clx (clx rfl))))) rfl rfl H
    · replace H := H.2 (fun hz => hc ((eq_J ((congr (congrArg F5 rfl) rfl).trans (t5 q3)) jl_0 q4 (by decide)).mpr hz))
      obtain ⟨q5, H⟩ := H
      refine ⟨fun hc => ?_, fun hc => ?_⟩
      · replace H := H.1 ((le_J jl_10 rfl (by decide) q5).mp hc)
        exact Ev_to (clx (cli rfl (cli (add_J rfl jl_1) (clx (clx rfl))))) rfl rfl H
      · replace H := H.2 (fun hz => hc ((le_J jl_10 rfl (by decide) q5).mpr hz))
        obtain ⟨q6, H⟩ := H
        refine ⟨inb_J rfl q6 (by decide), ?_⟩
        exact Ev_to (clx (cli (add_J rfl jl_1) (cli (add_J rfl jl_1) (clx (clx rfl))))) rfl (jm_up rfl (jf_upd (jf_base _ _) rfl q6 (by decide) rfl)) H
theorem v90_58 {E : gw_N} {N : NM} {res : Option Value × gw_H} {x2 : Int} (H : ((R (G40 N)) ∧ ((R x2) ∧ (((G40 N) ≤ x2 → res = (none, hs E (jm N))) ∧ (¬ (G40 N) ≤ x2 → Ev 3 90 71 [some (.ref 36), none, some (.int (J x2)), some (.int (J 0)), none] [] (hs E (jm N)) res))))) : Ev 3 90 58 [some (.ref 36), none, some (.int (J x2)), none, none] [] (hs E (jm N)) res := by
  refine w90_58 ?_
  obtain ⟨q1, q2, H⟩ := H
  refine ⟨fun hc => ?_, fun hc => ?_⟩
  · replace H := H.1 ((le_J ((congrArg F40 rfl).trans (t40)) rfl q1 q2).mp hc)
    exact H.trans (rt_n rfl)
  · replace H := H.2 (fun hz => hc ((le_J ((congrArg F40 rfl).trans (t40)) rfl q1 q2).mpr hz))
    exact Ev_to (clx (clx (cli rfl (cli jl_0 (clx rfl))))) rfl rfl H
theorem v90_71 {E : gw_N} {N : NM} {res : Option Value × gw_H} {x2 : Int} {x3 : Int} (H : ((R x3) ∧ (((4 : Int) ≤ x3 → Ev 3 90 58 [some (.ref 36), none, some (.int (J (x2 + 1))), none, none] [] (hs E (jm N)) res) ∧ (¬ (4 : Int) ≤ x3 → ((Q46 N x2 x3) ∧ ((R (G46 N x2 x3)) ∧ (((G46 N x2 x3) = (-1) → Ev 3 90 71 [some (.ref 36), none, some (.int (J x2)), some (.int (J (x3 + 1))), none] [] (hs E (jm N)) res) ∧ (¬ (G46 N x2 x3) = (-1) → ((Q4 N (G46 N x2 x3)) ∧ ((Q4 N x2) ∧ ((R (G4 N (G46 N x2 x3))) ∧ ((R (G4 N x2)) ∧ (((G4 N (G46 N x2 x3)) = (G4 N x2) → Ev 3 90 71 [some (.ref 36), none, some (.int (J x2)), some (.int (J (x3 + 1))), none] [] (hs E (jm N)) res) ∧ (¬ (G4 N (G46 N x2 x3)) = (G4 N x2) → ((0 ≤ (G4 N x2) ∧ (G4 N x2) < 64) ∧ ((0 ≤ ((N 37) (G4 N x2)) ∧ ((N 37) (G4 N x2)) < 10) ∧ ((0 ≤ (G4 N (G46 N x2 x3)) ∧ (G4 N (G46 N x2 x3)) < 64) ∧ Ev 3 90 71 [some (.ref 36), none, some (.int (J x2)), some (.int (J (x3 + 1))), none] [] (hs E (jm (upZ N 38 (updZ (N 38) ((N 37) (G4 N x2)) (zor ((N 38) ((N 37) (G4 N x2))) (zshl 1 ((N 37) (G4 N (G46 N x2 x3))))))))) res))))))))))))))))) : Ev 3 90 71 [some (.ref 36), none, some (.int (J x2)), some (.int (J x3)), none] [] (hs E (jm N)) res := by
  refine w90_71 ?_
  obtain ⟨q1, H⟩ := H
  refine ⟨fun hc => ?_, fun hc => ?_⟩
  · replace H := H.1 ((le_J jl_4 rfl (by decide) q1).mp hc)
    exact Ev_to (clx (clx (cli (add_J rfl jl_1) (clx (clx rfl))))) rfl rfl H
  · replace H := H.2 (fun hz => hc ((le_J jl_4 rfl (by decide) q1).mpr hz))
    obtain ⟨q2, H⟩ := H
    refine ⟨Eq.mpr (congr (congr (congrArg P46 rfl) rfl) rfl) (p46 q2), ?_⟩
    obtain ⟨q3, H⟩ := H
    refine ⟨fun hc => ?_, fun hc => ?_⟩
    · replace H := H.1 ((eq_J ((congr (congr (congrArg F46 rfl) rfl) rfl).trans (t46 q2)) jl_m1 q3 (by decide)).mp hc)
      exact Ev_to (clx (clx (cli rfl (cli (add_J rfl jl_1) (clx rfl))))) rfl rfl H
    · replace H := H.2 (fun hz => hc ((eq_J ((congr (congr (congrArg F46 rfl) rfl) rfl).trans (t46 q2)) jl_m1 q3 (by decide)).mpr hz))
      obtain ⟨q4, H⟩ := H
      refine ⟨Eq.mpr (congr (congrArg P4 rfl) ((congr (congr (congrArg F46 rfl) rfl) rfl).trans (t46 q2))) (p4 q4), ?_⟩
      obtain ⟨q5, H⟩ := H
      refine ⟨Eq.mpr (congr (congrArg P4 rfl) rfl) (p4 q5), ?_⟩
      obtain ⟨q6, q7, H⟩ := H
      refine ⟨fun hc => ?_, fun hc => ?_⟩
      · replace H := H.1 ((eq_J ((congr (congrArg F4 rfl) ((congr (congr (congrArg F46 rfl) rfl) rfl).trans (t46 q2))).trans (t4 q4)) ((congr (congrArg F4 rfl) rfl).trans (t4 q5)) q6 q7).mp hc)
        exact Ev_to (clx (clx (cli rfl (cli (add_J rfl jl_1) (clx rfl))))) rfl rfl H
      · replace H := H.2 (fun hz => hc ((eq_J ((congr (congrArg F4 rfl) ((congr (congr (congrArg F46 rfl) rfl) rfl).trans (t46 q2))).trans (t4 q4)) ((congr (congrArg F4 rfl) rfl).trans (t4 q5)) q6 q7).mpr hz))
        refine ⟨Eq.mpr (congr (congrArg P4 rfl) rfl) (p4 q5), ?_⟩
        obtain ⟨q8, H⟩ := H
        refine ⟨inb_J ((congr (congrArg F4 rfl) rfl).trans (t4 q5)) q8 (by decide), ?_⟩
        obtain ⟨q9, H⟩ := H
        refine ⟨inb_J (rd_J (jf_base _ _) ((congr (congrArg F4 rfl) rfl).trans (t4 q5)) q8 (by decide)) q9 (by decide), ?_⟩
        refine ⟨Eq.mpr (congr (congrArg P4 rfl) ((congr (congr (congrArg F46 rfl) rfl) rfl).trans (t46 q2))) (p4 q4), ?_⟩
        obtain ⟨q10, H⟩ := H
        refine ⟨inb_J ((congr (congrArg F4 rfl) ((congr (congr (congrArg F46 rfl) rfl) rfl).trans (t46 q2))).trans (t4 q4)) q10 (by decide), ?_⟩
        refine ⟨inb_J (rd_J (jf_base _ _) ((congr (congrArg F4 rfl) rfl).trans (t4 q5)) q8 (by decide)) q9 (by decide), ?_⟩
        exact Ev_to (clx (clx (cli rfl (cli (add_J rfl jl_1) (clx rfl))))) rfl (jm_up rfl (jf_upd (jf_base _ _) (rd_J (jf_base _ _) ((congr (congrArg F4 rfl) rfl).trans (t4 q5)) q8 (by decide)) q9 (by decide) (zor_J (rd_J (jf_base _ _) (rd_J (jf_base _ _) ((congr (congrArg F4 rfl) rfl).trans (t4 q5)) q8 (by decide)) q9 (by decide)) (zshl_J jl_1 (rd_J (jf_base _ _) ((congr (congrArg F4 rfl) ((congr (congr (congrArg F46 rfl) rfl) rfl).trans (t46 q2))).trans (t4 q4)) q10 (by decide)))))) H
-- 112 GlassWires$Plan make (I)V
theorem v112_0 {E : gw_N} {N : NM} {res : Option Value × gw_H} {x1 : Int} (H : Ev 3 112 9 [some (.ref 50), none, some (.int (J x1)), some (.int (J 0)), none] [] (hs E (jm (upZ N 50 (updZ (N 50) 3 0)))) res) : Ev 3 112 0 [some (.ref 50), some (.int (J x1)), none, none, none] [] (hs E (jm N)) res := by
  refine w112_0 ?_
  exact Ev_to (clx (clx (cli rfl (cli jl_0 (clx rfl))))) rfl (jm_up rfl (jf_updk (jf_base _ _) jl_0)) H
theorem v112_9 {E : gw_N} {N : NM} {res : Option Value × gw_H} {x2 : Int} {x3 : Int} (H : ((R x3) ∧ (((8 : Int) ≤ x3 → res = (none, hs E (jm N))) ∧ (¬ (8 : Int) ≤ x3 → ((R x2) ∧ ((x2 = 0 → res = (none, hs E (jm N))) ∧ (¬ x2 = 0 → (∃ (r1 : Int), Rn 113 [.ref 50, .int (J x2)] (hs E (jm N)) (some (.int (J r1))) (hs E (jm N)) ∧ ((Q99 N r1) ∧ (∃ (r2 : Int), Rn 108 [.ref 40, .int (J r1)] (hs E (jm N)) (some (.int (J r2))) (hs E (jm N)) ∧ (∃ (N3 : NM), Rn 114 [.ref 50, .int (J (G99 N r1)), .int (J r2)] (hs E (jm N)) none (hs E (jm N3)) ∧ Ev 3 112 9 [some (.ref 50), none, some (.int (J (zand x2 (zxor (zshl 1 r1) (-1))))), some (.int (J (x3 + 1))), none] [] (hs E (jm N3)) res))))))))))) : Ev 3 112 9 [some (.ref 50), none, some (.int (J x2)), some (.int (J x3)), none] [] (hs E (jm N)) res := by
  refine w112_9 ?_
  obtain ⟨q1, H⟩ := H
  refine ⟨fun hc => ?_, fun hc => ?_⟩
  · replace H := H.1 ((le_J jl_8 rfl (by decide) q1).mp hc)
    exact H.trans (rt_n rfl)
  · replace H := H.2 (fun hz => hc ((le_J jl_8 rfl (by decide) q1).mpr hz))
    obtain ⟨q2, H⟩ := H
    refine ⟨fun hc => ?_, fun hc => ?_⟩
    · replace H := H.1 ((eq_J rfl jl_0 q2 (by decide)).mp hc)
      exact H.trans (rt_n rfl)
    · replace H := H.2 (fun hz => hc ((eq_J rfl jl_0 q2 (by decide)).mpr hz))
      obtain ⟨r1, q6, H⟩ := H
      refine ⟨J r1, Rn_to (clx (cai rfl rfl)) rfl rfl q6, ?_⟩
      obtain ⟨q3, H⟩ := H
      refine ⟨Eq.mpr (congr (congrArg P99 rfl) rfl) (p99 q3), ?_⟩
      obtain ⟨r2, q5, H⟩ := H
      refine ⟨J r2, Rn_to (clx (cai rfl rfl)) rfl rfl q5, ?_⟩
      obtain ⟨N3, q4, H⟩ := H
      refine ⟨jm N3, Rn_to (clx (cai ((congr (congrArg F99 rfl) rfl).trans (t99 q3)) (cai rfl rfl))) rfl rfl q4, ?_⟩
      exact Ev_to (clx (clx (cli (zand_J rfl (zxor_J (zshl_J jl_1 rfl) jl_m1)) (cli (add_J rfl jl_1) (clx rfl))))) rfl rfl H
-- 123 GlassWires$Rods setOfAll (LGlassWires$Wires;)I
theorem v123_0 {E : gw_N} {N : NM} {res : Option Value × gw_H}  (H : (∃ (r1 : Int), Rn 155 [.ref 14] (hs E (jm N)) (some (.int (J r1))) (hs E (jm N)) ∧ ((Q312 N r1 8) ∧ res = (some (.int (J ((zshl 1 (G312 N r1 8)) - 1))), hs E (jm N))))) : Ev 3 123 0 [some (.ref 14)] [] (hs E (jm N)) res := by
  refine w123_0 ?_
  obtain ⟨r1, q2, H⟩ := H
  refine ⟨J r1, Rn_to (clx rfl) rfl rfl q2, ?_⟩
  obtain ⟨q1, H⟩ := H
  exact H.trans (rt_i (sub_J (zshl_J jl_1 ((congr (congr (congrArg F312 rfl) rfl) jl_8).trans (t312 q1))) jl_1) rfl)
-- 130 GlassWires$Tension backPull ()I
theorem v130_0 {E : gw_N} {N : NM} {res : Option Value × gw_H}  (H : ((Q131 N ((N 53) 3) ((N 53) 4)) ∧ res = (some (.int (J (G131 N ((N 53) 3) ((N 53) 4)))), hs E (jm N)))) : Ev 3 130 0 [some (.ref 53)] [] (hs E (jm N)) res := by
  refine w130_0 ?_
  obtain ⟨q1, H⟩ := H
  refine ⟨Eq.mpr (congr (congr (congrArg P131 rfl) (fld_J (jf_base _ _))) (fld_J (jf_base _ _))) (p131 q1), ?_⟩
  exact H.trans (rt_i ((congr (congr (congrArg F131 rfl) (fld_J (jf_base _ _))) (fld_J (jf_base _ _))).trans (t131 q1)) rfl)
def G130 (N : NM) : Int := (G131 N ((N 53) 3) ((N 53) 4))
def Q130 (N : NM) : Prop := ((Q131 N ((N 53) 3) ((N 53) 4)) ∧ True)
theorem t130 {N : NM} (H : Q130 N) : F130 (jm N) = J (G130 N) := by
  unfold Q130 at H
  unfold F130 G130
  obtain ⟨q1, H⟩ := H
  exact ((congr (congr (congrArg F131 rfl) (fld_J (jf_base _ _))) (fld_J (jf_base _ _))).trans (t131 q1))
theorem p130 {N : NM} (H : Q130 N) : P130 (jm N) := by
  unfold Q130 at H
  unfold P130
  obtain ⟨q1, H⟩ := H
  exact Eq.mpr (congr (congr (congrArg P131 rfl) (fld_J (jf_base _ _))) (fld_J (jf_base _ _))) (p131 q1)
theorem sz130 {E : gw_N} {N : NM} (H : Q130 N) : Rn 130 [.ref 53] (hs E (jm N)) (some (.int (J (G130 N)))) (hs E (jm N)) := by
  have h := s130 (E := E) (M := jm N) (p130 H)
  rw [t130 H] at h
  exact h
-- 135 GlassWires$Tension straightThick (I)I
theorem v135_0 {E : gw_N} {N : NM} {res : Option Value × gw_H} {x1 : Int} (H : (∃ (r1 : Int), Rn 30 [.ref 44] (hs E (jm N)) (some (.int (J r1))) (hs E (jm N)) ∧ ((Q133 N r1 0) ∧ ((Q310 N (G133 N r1 0)) ∧ Ev 3 135 24 [some (.ref 53), some (.int (J x1)), some (.int (J r1)), some (.int (J 0)), some (.int (J (G310 N (G133 N r1 0)))), some (.int (J 1)), none] [] (hs E (jm N)) res)))) : Ev 3 135 0 [some (.ref 53), some (.int (J x1)), none, none, none, none, none] [] (hs E (jm N)) res := by
  refine w135_0 ?_
  obtain ⟨r1, q3, H⟩ := H
  refine ⟨J r1, Rn_to (clx rfl) rfl rfl q3, ?_⟩
  obtain ⟨q1, H⟩ := H
  refine ⟨Eq.mpr (congr (congr (congrArg P133 rfl) rfl) jl_0) (p133 q1), ?_⟩
  obtain ⟨q2, H⟩ := H
  exact Ev_to (clx (cli rfl (cli rfl (cli jl_0 (cli ((congr (congrArg F310 rfl) ((congr (congr (congrArg F133 rfl) rfl) jl_0).trans (t133 q1))).trans (t310 q2)) (cli jl_1 (clx rfl))))))) rfl rfl H
theorem v135_24 {E : gw_N} {N : NM} {res : Option Value × gw_H} {x1 : Int} {x2 : Int} {x3 : Int} {x4 : Int} {x5 : Int} (H : ((R x5) ∧ (((99 : Int) < x5 → res = (some (.int (J x3)), hs E (jm N))) ∧ (¬ (99 : Int) < x5 → ((Q131 N x1 x5) ∧ ((Q133 N x2 (G131 N x1 x5)) ∧ ((Q310 N (G133 N x2 (G131 N x1 x5))) ∧ ((R x4) ∧ ((R (G310 N (G133 N x2 (G131 N x1 x5)))) ∧ ((x4 ≤ (G310 N (G133 N x2 (G131 N x1 x5))) → Ev 3 135 24 [some (.ref 53), some (.int (J x1)), some (.int (J x2)), some (.int (J x3)), some (.int (J x4)), some (.int (J (x5 + 1))), none] [] (hs E (jm N)) res) ∧ (¬ x4 ≤ (G310 N (G133 N x2 (G131 N x1 x5))) → Ev 3 135 24 [some (.ref 53), some (.int (J x1)), some (.int (J x2)), some (.int (J x5)), some (.int (J (G310 N (G133 N x2 (G131 N x1 x5))))), some (.int (J (x5 + 1))), none] [] (hs E (jm N)) res))))))))))) : Ev 3 135 24 [some (.ref 53), some (.int (J x1)), some (.int (J x2)), some (.int (J x3)), some (.int (J x4)), some (.int (J x5)), none] [] (hs E (jm N)) res := by
  refine w135_24 ?_
  obtain ⟨q1, H⟩ := H
  refine ⟨fun hc => ?_, fun hc => ?_⟩
  · replace H := H.1 ((lt_J jl_99 rfl (by decide) q1).mp hc)
    exact H.trans (rt_i rfl rfl)
  · replace H := H.2 (fun hz => hc ((lt_J jl_99 rfl (by decide) q1).mpr hz))
    obtain ⟨q2, H⟩ := H
    refine ⟨Eq.mpr (congr (congr (congrArg P131 rfl) rfl) rfl) (p131 q2), ?_⟩
    obtain ⟨q3, H⟩ := H
    refine ⟨Eq.mpr (congr (congr (congrArg P133 rfl) rfl) ((congr (congr (congrArg F131 rfl) rfl) rfl).trans (t131 q2))) (p133 q3), ?_⟩
    obtain ⟨q4, H⟩ := H
    obtain ⟨q5, q6, H⟩ := H
    refine ⟨fun hc => ?_, fun hc => ?_⟩
    · replace H := H.1 ((le_J rfl ((congr (congrArg F310 rfl) ((congr (congr (congrArg F133 rfl) rfl) ((congr (congr (congrArg F131 rfl) rfl) rfl).trans (t131 q2))).trans (t133 q3))).trans (t310 q4)) q5 q6).mp hc)
      exact Ev_to (clx (cli rfl (cli rfl (cli rfl (cli rfl (cli (add_J rfl jl_1) (clx rfl))))))) rfl rfl H
    · replace H := H.2 (fun hz => hc ((le_J rfl ((congr (congrArg F310 rfl) ((congr (congr (congrArg F133 rfl) rfl) ((congr (congr (congrArg F131 rfl) rfl) rfl).trans (t131 q2))).trans (t133 q3))).trans (t310 q4)) q5 q6).mpr hz))
      exact Ev_to (clx (cli rfl (cli rfl (cli rfl (cli ((congr (congrArg F310 rfl) ((congr (congr (congrArg F133 rfl) rfl) ((congr (congr (congrArg F131 rfl) rfl) rfl).trans (t131 q2))).trans (t133 q3))).trans (t310 q4)) (cli (add_J rfl jl_1) (clx rfl))))))) rfl rfl H
-- 164 GlassWires good (II)I
theorem v164_0 {E : gw_N} {N : NM} {res : Option Value × gw_H} {x1 : Int} {x2 : Int} (H : ((Q41 N x1 x2) ∧ ((R (G41 N x1 x2)) ∧ (((G41 N x1 x2) = 0 → res = (some (.int (J (-101))), hs E (jm N))) ∧ (¬ (G41 N x1 x2) = 0 → (∃ (r1 : Int), Rn 84 [.ref 12, .ref 9, .int (J x1), .int (J x2)] (hs E (jm N)) (some (.int (J r1))) (hs E (jm N)) ∧ res = (some (.int (J r1)), hs E (jm N)))))))) : Ev 3 164 0 [some (.ref 8), some (.int (J x1)), some (.int (J x2))] [] (hs E (jm N)) res := by
  refine w164_0 ?_
  obtain ⟨q1, H⟩ := H
  obtain ⟨q2, H⟩ := H
  refine ⟨fun hc => ?_, fun hc => ?_⟩
  · replace H := H.1 ((eq_J ((congr (congr (congrArg F41 rfl) rfl) rfl).trans (t41 q1)) jl_0 q2 (by decide)).mp hc)
    exact H.trans (rt_i jl_m101 rfl)
  · replace H := H.2 (fun hz => hc ((eq_J ((congr (congr (congrArg F41 rfl) rfl) rfl).trans (t41 q1)) jl_0 q2 (by decide)).mpr hz))
    obtain ⟨r1, q3, H⟩ := H
    refine ⟨J r1, Rn_to (clx (clx (cai rfl (cai rfl rfl)))) rfl rfl q3, ?_⟩
    exact H.trans (rt_i rfl rfl)
-- 168 GlassWires about (II)I
theorem v168_0 {E : gw_N} {N : NM} {res : Option Value × gw_H} {x1 : Int} {x2 : Int} (H : ((Q144 N x1) ∧ ((R (G144 N x1)) ∧ (((G144 N x1) = 0 → res = (some (.int (J (-101))), hs E (jm N))) ∧ (¬ (G144 N x1) = 0 → ((R x2) ∧ ((x2 = 0 → ((Q149 N x1) ∧ res = (some (.int (J (G149 N x1))), hs E (jm N)))) ∧ (x2 = 1 → ((Q150 N x1) ∧ res = (some (.int (J (G150 N x1))), hs E (jm N)))) ∧ (x2 = 2 → ((Q152 N x1) ∧ ((Q206 N (G152 N x1)) ∧ res = (some (.int (J (G206 N (G152 N x1)))), hs E (jm N))))) ∧ (x2 = 3 → ((Q151 N x1) ∧ res = (some (.int (J (G151 N x1))), hs E (jm N)))) ∧ (x2 = 4 → ((Q64 N x1) ∧ ((Q206 N (G64 N x1)) ∧ res = (some (.int (J (G206 N (G64 N x1)))), hs E (jm N))))) ∧ (¬ x2 = 0 → ¬ x2 = 1 → ¬ x2 = 2 → ¬ x2 = 3 → ¬ x2 = 4 → res = (some (.int (J (-102))), hs E (jm N)))))))))) : Ev 3 168 0 [some (.ref 8), some (.int (J x1)), some (.int (J x2))] [] (hs E (jm N)) res := by
  refine w168_0 ?_
  obtain ⟨q1, H⟩ := H
  obtain ⟨q2, H⟩ := H
  refine ⟨fun hc => ?_, fun hc => ?_⟩
  · replace H := H.1 ((eq_J ((congr (congrArg F144 rfl) rfl).trans (t144 q1)) jl_0 q2 (by decide)).mp hc)
    exact H.trans (rt_i jl_m101 rfl)
  · replace H := H.2 (fun hz => hc ((eq_J ((congr (congrArg F144 rfl) rfl).trans (t144 q1)) jl_0 q2 (by decide)).mpr hz))
    obtain ⟨q3, H⟩ := H
    refine ⟨fun hc => ?_, fun hc => ?_, fun hc => ?_, fun hc => ?_, fun hc => ?_, fun hc0 hc1 hc2 hc3 hc4 => ?_⟩
    · replace H := (H.1) ((eq_J rfl jl_0 q3 (by decide)).mp hc)
      obtain ⟨q4, H⟩ := H
      refine ⟨Eq.mpr (congr (congrArg P149 rfl) rfl) (p149 q4), ?_⟩
      exact H.trans (rt_i ((congr (congrArg F149 rfl) rfl).trans (t149 q4)) rfl)
    · replace H := (H.2.1) ((eq_J rfl jl_1 q3 (by decide)).mp hc)
      obtain ⟨q5, H⟩ := H
      refine ⟨Eq.mpr (congr (congrArg P150 rfl) rfl) (p150 q5), ?_⟩
      exact H.trans (rt_i ((congr (congrArg F150 rfl) rfl).trans (t150 q5)) rfl)
    · replace H := (H.2.2.1) ((eq_J rfl jl_2 q3 (by decide)).mp hc)
      obtain ⟨q6, H⟩ := H
      refine ⟨Eq.mpr (congr (congrArg P152 rfl) rfl) (p152 q6), ?_⟩
      obtain ⟨q7, H⟩ := H
      exact H.trans (rt_i ((congr (congrArg F206 rfl) ((congr (congrArg F152 rfl) rfl).trans (t152 q6))).trans (t206 q7)) rfl)
    · replace H := (H.2.2.2.1) ((eq_J rfl jl_3 q3 (by decide)).mp hc)
      obtain ⟨q8, H⟩ := H
      refine ⟨Eq.mpr (congr (congrArg P151 rfl) rfl) (p151 q8), ?_⟩
      exact H.trans (rt_i ((congr (congrArg F151 rfl) rfl).trans (t151 q8)) rfl)
    · replace H := (H.2.2.2.2.1) ((eq_J rfl jl_4 q3 (by decide)).mp hc)
      obtain ⟨q9, H⟩ := H
      refine ⟨Eq.mpr (congr (congrArg P64 rfl) rfl) (p64 q9), ?_⟩
      obtain ⟨q10, H⟩ := H
      exact H.trans (rt_i ((congr (congrArg F206 rfl) ((congr (congrArg F64 rfl) rfl).trans (t64 q9))).trans (t206 q10)) rfl)
    · replace H := (H.2.2.2.2.2) (fun hz => hc0 ((eq_J rfl jl_0 q3 (by decide)).mpr hz)) (fun hz => hc1 ((eq_J rfl jl_1 q3 (by decide)).mpr hz)) (fun hz => hc2 ((eq_J rfl jl_2 q3 (by decide)).mpr hz)) (fun hz => hc3 ((eq_J rfl jl_3 q3 (by decide)).mpr hz)) (fun hz => hc4 ((eq_J rfl jl_4 q3 (by decide)).mpr hz))
      exact H.trans (rt_i jl_m102 rfl)
def G168 (N : NM) (x1 : Int) (x2 : Int) : Int := (if (G144 N x1) = 0 then (-101) else (if x2 = 0 then (G149 N x1) else (if x2 = 1 then (G150 N x1) else (if x2 = 2 then (G206 N (G152 N x1)) else (if x2 = 3 then (G151 N x1) else (if x2 = 4 then (G206 N (G64 N x1)) else (-102)))))))
def Q168 (N : NM) (x1 : Int) (x2 : Int) : Prop := ((Q144 N x1) ∧ ((R (G144 N x1)) ∧ (((G144 N x1) = 0 → True) ∧ (¬ (G144 N x1) = 0 → ((R x2) ∧ ((x2 = 0 → ((Q149 N x1) ∧ True)) ∧ (¬ x2 = 0 → ((x2 = 1 → ((Q150 N x1) ∧ True)) ∧ (¬ x2 = 1 → ((x2 = 2 → ((Q152 N x1) ∧ ((Q206 N (G152 N x1)) ∧ True))) ∧ (¬ x2 = 2 → ((x2 = 3 → ((Q151 N x1) ∧ True)) ∧ (¬ x2 = 3 → ((x2 = 4 → ((Q64 N x1) ∧ ((Q206 N (G64 N x1)) ∧ True))) ∧ (¬ x2 = 4 → True)))))))))))))))
theorem t168 {N : NM} {x1 : Int} {x2 : Int} (H : Q168 N x1 x2) : F168 (jm N) (J x1) (J x2) = J (G168 N x1 x2) := by
  unfold Q168 at H
  unfold F168 G168
  obtain ⟨q1, H⟩ := H
  obtain ⟨q2, H⟩ := H
  refine ite_J (eq_J ((congr (congrArg F144 rfl) rfl).trans (t144 q1)) jl_0 q2 (by decide)) (fun hc => ?_) (fun hc => ?_)
  · replace H := H.1 ((eq_J ((congr (congrArg F144 rfl) rfl).trans (t144 q1)) jl_0 q2 (by decide)).mp hc)
    exact jl_m101
  · replace H := H.2 (fun hz => hc ((eq_J ((congr (congrArg F144 rfl) rfl).trans (t144 q1)) jl_0 q2 (by decide)).mpr hz))
    obtain ⟨q3, H⟩ := H
    refine ite_J (eq_J rfl jl_0 q3 (by decide)) (fun hc => ?_) (fun hc => ?_)
    · replace H := H.1 ((eq_J rfl jl_0 q3 (by decide)).mp hc)
      obtain ⟨q4, H⟩ := H
      exact ((congr (congrArg F149 rfl) rfl).trans (t149 q4))
    · replace H := H.2 (fun hz => hc ((eq_J rfl jl_0 q3 (by decide)).mpr hz))
      refine ite_J (eq_J rfl jl_1 q3 (by decide)) (fun hc => ?_) (fun hc => ?_)
      · replace H := H.1 ((eq_J rfl jl_1 q3 (by decide)).mp hc)
        obtain ⟨q5, H⟩ := H
        exact ((congr (congrArg F150 rfl) rfl).trans (t150 q5))
      · replace H := H.2 (fun hz => hc ((eq_J rfl jl_1 q3 (by decide)).mpr hz))
        refine ite_J (eq_J rfl jl_2 q3 (by decide)) (fun hc => ?_) (fun hc => ?_)
        · replace H := H.1 ((eq_J rfl jl_2 q3 (by decide)).mp hc)
          obtain ⟨q6, H⟩ := H
          obtain ⟨q7, H⟩ := H
          exact ((congr (congrArg F206 rfl) ((congr (congrArg F152 rfl) rfl).trans (t152 q6))).trans (t206 q7))
        · replace H := H.2 (fun hz => hc ((eq_J rfl jl_2 q3 (by decide)).mpr hz))
          refine ite_J (eq_J rfl jl_3 q3 (by decide)) (fun hc => ?_) (fun hc => ?_)
          · replace H := H.1 ((eq_J rfl jl_3 q3 (by decide)).mp hc)
            obtain ⟨q8, H⟩ := H
            exact ((congr (congrArg F151 rfl) rfl).trans (t151 q8))
          · replace H := H.2 (fun hz => hc ((eq_J rfl jl_3 q3 (by decide)).mpr hz))
            refine ite_J (eq_J rfl jl_4 q3 (by decide)) (fun hc => ?_) (fun hc => ?_)
            · replace H := H.1 ((eq_J rfl jl_4 q3 (by decide)).mp hc)
              obtain ⟨q9, H⟩ := H
              obtain ⟨q10, H⟩ := H
              exact ((congr (congrArg F206 rfl) ((congr (congrArg F64 rfl) rfl).trans (t64 q9))).trans (t206 q10))
            · replace H := H.2 (fun hz => hc ((eq_J rfl jl_4 q3 (by decide)).mpr hz))
              exact jl_m102
theorem p168 {N : NM} {x1 : Int} {x2 : Int} (H : Q168 N x1 x2) : P168 (jm N) (J x1) (J x2) := by
  unfold Q168 at H
  unfold P168
  obtain ⟨q1, H⟩ := H
  obtain ⟨q2, H⟩ := H
  refine ⟨fun hc => ?_, fun hc => ?_⟩
  · replace H := H.1 ((eq_J ((congr (congrArg F144 rfl) rfl).trans (t144 q1)) jl_0 q2 (by decide)).mp hc)
    trivial
  · replace H := H.2 (fun hz => hc ((eq_J ((congr (congrArg F144 rfl) rfl).trans (t144 q1)) jl_0 q2 (by decide)).mpr hz))
    obtain ⟨q3, H⟩ := H
    refine ⟨fun hc => ?_, fun hc => ?_, fun hc => ?_, fun hc => ?_, fun hc => ?_, fun hc0 hc1 hc2 hc3 hc4 => ?_⟩
    · have hz := (eq_J rfl jl_0 q3 (by decide)).mp hc
      replace H := H.1 hz
      obtain ⟨q4, H⟩ := H
      exact Eq.mpr (congr (congrArg P149 rfl) rfl) (p149 q4)
    · have hz := (eq_J rfl jl_1 q3 (by decide)).mp hc
      replace H := H.2 (by omega)
      replace H := H.1 hz
      obtain ⟨q5, H⟩ := H
      exact Eq.mpr (congr (congrArg P150 rfl) rfl) (p150 q5)
    · have hz := (eq_J rfl jl_2 q3 (by decide)).mp hc
      replace H := H.2 (by omega)
      replace H := H.2 (by omega)
      replace H := H.1 hz
      obtain ⟨q6, H⟩ := H
      exact Eq.mpr (congr (congrArg P152 rfl) rfl) (p152 q6)
    · have hz := (eq_J rfl jl_3 q3 (by decide)).mp hc
      replace H := H.2 (by omega)
      replace H := H.2 (by omega)
      replace H := H.2 (by omega)
      replace H := H.1 hz
      obtain ⟨q7, H⟩ := H
      exact Eq.mpr (congr (congrArg P151 rfl) rfl) (p151 q7)
    · have hz := (eq_J rfl jl_4 q3 (by decide)).mp hc
      replace H := H.2 (by omega)
      replace H := H.2 (by omega)
      replace H := H.2 (by omega)
      replace H := H.2 (by omega)
      replace H := H.1 hz
      obtain ⟨q8, H⟩ := H
      exact Eq.mpr (congr (congrArg P64 rfl) rfl) (p64 q8)
    · skip
      replace H := H.2 (fun hz => hc0 ((eq_J rfl jl_0 q3 (by decide)).mpr hz))
      replace H := H.2 (fun hz => hc1 ((eq_J rfl jl_1 q3 (by decide)).mpr hz))
      replace H := H.2 (fun hz => hc2 ((eq_J rfl jl_2 q3 (by decide)).mpr hz))
      replace H := H.2 (fun hz => hc3 ((eq_J rfl jl_3 q3 (by decide)).mpr hz))
      replace H := H.2 (fun hz => hc4 ((eq_J rfl jl_4 q3 (by decide)).mpr hz))
      trivial
theorem sz168 {E : gw_N} {N : NM} {x1 : Int} {x2 : Int} (H : Q168 N x1 x2) : Rn 168 [.ref 8, .int (J x1), .int (J x2)] (hs E (jm N)) (some (.int (J (G168 N x1 x2)))) (hs E (jm N)) := by
  have h := s168 (E := E) (M := jm N) (x1 := J x1) (x2 := J x2) (p168 H)
  rw [t168 H] at h
  exact h
-- 170 GlassWires covers (III)I
theorem v170_0 {E : gw_N} {N : NM} {res : Option Value × gw_H} {x1 : Int} {x2 : Int} {x3 : Int} (H : ((Q44 N x1 x2 x3) ∧ ((R (G44 N x1 x2 x3)) ∧ (((G44 N x1 x2 x3) = 0 → res = (some (.int (J (-101))), hs E (jm N))) ∧ (¬ (G44 N x1 x2 x3) = 0 → ((Q66 N (G51 N x1 x2 x3)) ∧ res = (some (.int (J (G66 N (G51 N x1 x2 x3)))), hs E (jm N)))))))) : Ev 3 170 0 [some (.ref 8), some (.int (J x1)), some (.int (J x2)), some (.int (J x3))] [] (hs E (jm N)) res := by
  refine w170_0 ?_
  obtain ⟨q1, H⟩ := H
  obtain ⟨q2, H⟩ := H
  refine ⟨fun hc => ?_, fun hc => ?_⟩
  · replace H := H.1 ((eq_J ((congr (congr (congr (congrArg F44 rfl) rfl) rfl) rfl).trans (t44 q1)) jl_0 q2 (by decide)).mp hc)
    exact H.trans (rt_i jl_m101 rfl)
  · replace H := H.2 (fun hz => hc ((eq_J ((congr (congr (congr (congrArg F44 rfl) rfl) rfl) rfl).trans (t44 q1)) jl_0 q2 (by decide)).mpr hz))
    obtain ⟨q3, H⟩ := H
    refine ⟨Eq.mpr (congr (congrArg P66 rfl) ((congr (congr (congr (congrArg F51 rfl) rfl) rfl) rfl).trans (t51))) (p66 q3), ?_⟩
    exact H.trans (rt_i ((congr (congrArg F66 rfl) ((congr (congr (congr (congrArg F51 rfl) rfl) rfl) rfl).trans (t51))).trans (t66 q3)) rfl)
def G170 (N : NM) (x1 : Int) (x2 : Int) (x3 : Int) : Int := (if (G44 N x1 x2 x3) = 0 then (-101) else (G66 N (G51 N x1 x2 x3)))
def Q170 (N : NM) (x1 : Int) (x2 : Int) (x3 : Int) : Prop := ((Q44 N x1 x2 x3) ∧ ((R (G44 N x1 x2 x3)) ∧ (((G44 N x1 x2 x3) = 0 → True) ∧ (¬ (G44 N x1 x2 x3) = 0 → ((Q66 N (G51 N x1 x2 x3)) ∧ True)))))
theorem t170 {N : NM} {x1 : Int} {x2 : Int} {x3 : Int} (H : Q170 N x1 x2 x3) : F170 (jm N) (J x1) (J x2) (J x3) = J (G170 N x1 x2 x3) := by
  unfold Q170 at H
  unfold F170 G170
  obtain ⟨q1, H⟩ := H
  obtain ⟨q2, H⟩ := H
  refine ite_J (eq_J ((congr (congr (congr (congrArg F44 rfl) rfl) rfl) rfl).trans (t44 q1)) jl_0 q2 (by decide)) (fun hc => ?_) (fun hc => ?_)
  · replace H := H.1 ((eq_J ((congr (congr (congr (congrArg F44 rfl) rfl) rfl) rfl).trans (t44 q1)) jl_0 q2 (by decide)).mp hc)
    exact jl_m101
  · replace H := H.2 (fun hz => hc ((eq_J ((congr (congr (congr (congrArg F44 rfl) rfl) rfl) rfl).trans (t44 q1)) jl_0 q2 (by decide)).mpr hz))
    obtain ⟨q3, H⟩ := H
    exact ((congr (congrArg F66 rfl) ((congr (congr (congr (congrArg F51 rfl) rfl) rfl) rfl).trans (t51))).trans (t66 q3))
theorem p170 {N : NM} {x1 : Int} {x2 : Int} {x3 : Int} (H : Q170 N x1 x2 x3) : P170 (jm N) (J x1) (J x2) (J x3) := by
  unfold Q170 at H
  unfold P170
  obtain ⟨q1, H⟩ := H
  obtain ⟨q2, H⟩ := H
  refine ⟨fun hc => ?_, fun hc => ?_⟩
  · replace H := H.1 ((eq_J ((congr (congr (congr (congrArg F44 rfl) rfl) rfl) rfl).trans (t44 q1)) jl_0 q2 (by decide)).mp hc)
    trivial
  · replace H := H.2 (fun hz => hc ((eq_J ((congr (congr (congr (congrArg F44 rfl) rfl) rfl) rfl).trans (t44 q1)) jl_0 q2 (by decide)).mpr hz))
    obtain ⟨q3, H⟩ := H
    exact Eq.mpr (congr (congrArg P66 rfl) ((congr (congr (congr (congrArg F51 rfl) rfl) rfl) rfl).trans (t51))) (p66 q3)
theorem sz170 {E : gw_N} {N : NM} {x1 : Int} {x2 : Int} {x3 : Int} (H : Q170 N x1 x2 x3) : Rn 170 [.ref 8, .int (J x1), .int (J x2), .int (J x3)] (hs E (jm N)) (some (.int (J (G170 N x1 x2 x3)))) (hs E (jm N)) := by
  have h := s170 (E := E) (M := jm N) (x1 := J x1) (x2 := J x2) (x3 := J x3) (p170 H)
  rw [t170 H] at h
  exact h
-- 180 GlassWires fill (III)I
theorem v180_0 {E : gw_N} {N : NM} {res : Option Value × gw_H} {x1 : Int} {x2 : Int} {x3 : Int} (H : ((Q5 N x1) ∧ ((R (G5 N x1)) ∧ (((G5 N x1) = 0 → res = (some (.int (J (-101))), hs E (jm N))) ∧ (¬ (G5 N x1) = 0 → ((Q94 N x2) ∧ ((R (G94 N x2)) ∧ (((G94 N x2) = 0 → res = (some (.int (J (-101))), hs E (jm N))) ∧ (¬ (G94 N x2) = 0 → ((R x3) ∧ ((x3 < 1 → res = (some (.int (J (-102))), hs E (jm N))) ∧ (¬ x3 < 1 → ((x3 ≤ 99 → (∃ (r1 : Int), Rn 16 [.ref 44, .int (J x1)] (hs E (jm N)) (some (.int (J r1))) (hs E (jm N)) ∧ ((R r1) ∧ ((r1 = 0 → res = (some (.int (J (-104))), hs E (jm N))) ∧ (¬ r1 = 0 → (∃ (r2 : Int) (N2 : NM), Rn 17 [.ref 44, .int (J x1), .int (J x2), .int (J x3)] (hs E (jm N)) (some (.int (J r2))) (hs E (jm N2)) ∧ res = (some (.int (J r2)), hs E (jm N2)))))))) ∧ (¬ x3 ≤ 99 → res = (some (.int (J (-102))), hs E (jm N)))))))))))))))) : Ev 3 180 0 [some (.ref 8), some (.int (J x1)), some (.int (J x2)), some (.int (J x3))] [] (hs E (jm N)) res := by
  refine w180_0 ?_
  obtain ⟨q1, H⟩ := H
  refine ⟨Eq.mpr (congr (congrArg P5 rfl) rfl) (p5 q1), ?_⟩
  obtain ⟨q2, H⟩ := H
  refine ⟨fun hc => ?_, fun hc => ?_⟩
  · replace H := H.1 ((eq_J ((congr (congrArg F5 rfl) rfl).trans (t5 q1)) jl_0 q2 (by decide)).mp hc)
    exact H.trans (rt_i jl_m101 rfl)
  · replace H := H.2 (fun hz => hc ((eq_J ((congr (congrArg F5 rfl) rfl).trans (t5 q1)) jl_0 q2 (by decide)).mpr hz))
    obtain ⟨q3, H⟩ := H
    obtain ⟨q4, H⟩ := H
    refine ⟨fun hc => ?_, fun hc => ?_⟩
    · replace H := H.1 ((eq_J ((congr (congrArg F94 rfl) rfl).trans (t94 q3)) jl_0 q4 (by decide)).mp hc)
      exact H.trans (rt_i jl_m101 rfl)
    · replace H := H.2 (fun hz => hc ((eq_J ((congr (congrArg F94 rfl) rfl).trans (t94 q3)) jl_0 q4 (by decide)).mpr hz))
      obtain ⟨q5, H⟩ := H
      refine ⟨fun hc => ?_, fun hc => ?_⟩
      · replace H := H.1 ((lt_J rfl jl_1 q5 (by decide)).mp hc)
        exact H.trans (rt_i jl_m102 rfl)
      · replace H := H.2 (fun hz => hc ((lt_J rfl jl_1 q5 (by decide)).mpr hz))
        refine ⟨fun hc => ?_, fun hc => ?_⟩
        · replace H := H.1 ((le_J rfl jl_99 q5 (by decide)).mp hc)
          obtain ⟨r1, q8, H⟩ := H
          refine ⟨J r1, Rn_to (clx (cai rfl rfl)) rfl rfl q8, ?_⟩
          obtain ⟨q6, H⟩ := H
          refine ⟨fun hc => ?_, fun hc => ?_⟩
          · replace H := H.1 ((eq_J rfl jl_0 q6 (by decide)).mp hc)
            exact H.trans (rt_i jl_m104 rfl)
          · replace H := H.2 (fun hz => hc ((eq_J rfl jl_0 q6 (by decide)).mpr hz))
            obtain ⟨r2, N2, q7, H⟩ := H
            refine ⟨J r2, jm N2, Rn_to (clx (cai rfl (cai rfl (cai rfl rfl)))) rfl rfl q7, ?_⟩
            exact H.trans (rt_i rfl rfl)
        · replace H := H.2 (fun hz => hc ((le_J rfl jl_99 q5 (by decide)).mpr hz))
          exact H.trans (rt_i jl_m102 rfl)
-- 181 GlassWires empty (I)I
theorem v181_0 {E : gw_N} {N : NM} {res : Option Value × gw_H} {x1 : Int} (H : ((Q5 N x1) ∧ ((R (G5 N x1)) ∧ (((G5 N x1) = 0 → res = (some (.int (J (-101))), hs E (jm N))) ∧ (¬ (G5 N x1) = 0 → (∃ (r1 : Int) (N1 : NM), Rn 18 [.ref 44, .int (J x1)] (hs E (jm N)) (some (.int (J r1))) (hs E (jm N1)) ∧ res = (some (.int (J r1)), hs E (jm N1)))))))) : Ev 3 181 0 [some (.ref 8), some (.int (J x1))] [] (hs E (jm N)) res := by
  refine w181_0 ?_
  obtain ⟨q1, H⟩ := H
  refine ⟨Eq.mpr (congr (congrArg P5 rfl) rfl) (p5 q1), ?_⟩
  obtain ⟨q2, H⟩ := H
  refine ⟨fun hc => ?_, fun hc => ?_⟩
  · replace H := H.1 ((eq_J ((congr (congrArg F5 rfl) rfl).trans (t5 q1)) jl_0 q2 (by decide)).mp hc)
    exact H.trans (rt_i jl_m101 rfl)
  · replace H := H.2 (fun hz => hc ((eq_J ((congr (congrArg F5 rfl) rfl).trans (t5 q1)) jl_0 q2 (by decide)).mpr hz))
    obtain ⟨r1, N1, q3, H⟩ := H
    refine ⟨J r1, jm N1, Rn_to (clx (cai rfl rfl)) rfl rfl q3, ?_⟩
    exact H.trans (rt_i rfl rfl)
-- 187 GlassWires fills (I)I
theorem v187_0 {E : gw_N} {N : NM} {res : Option Value × gw_H} {x1 : Int} (H : ((Q94 N x1) ∧ ((R (G94 N x1)) ∧ (((G94 N x1) = 0 → res = (some (.int (J (-101))), hs E (jm N))) ∧ (¬ (G94 N x1) = 0 → (∃ (r1 : Int), Rn 108 [.ref 40, .int (J x1)] (hs E (jm N)) (some (.int (J r1))) (hs E (jm N)) ∧ res = (some (.int (J r1)), hs E (jm N)))))))) : Ev 3 187 0 [some (.ref 8), some (.int (J x1))] [] (hs E (jm N)) res := by
  refine w187_0 ?_
  obtain ⟨q1, H⟩ := H
  obtain ⟨q2, H⟩ := H
  refine ⟨fun hc => ?_, fun hc => ?_⟩
  · replace H := H.1 ((eq_J ((congr (congrArg F94 rfl) rfl).trans (t94 q1)) jl_0 q2 (by decide)).mp hc)
    exact H.trans (rt_i jl_m101 rfl)
  · replace H := H.2 (fun hz => hc ((eq_J ((congr (congrArg F94 rfl) rfl).trans (t94 q1)) jl_0 q2 (by decide)).mpr hz))
    obtain ⟨r1, q3, H⟩ := H
    refine ⟨J r1, Rn_to (clx (cai rfl rfl)) rfl rfl q3, ?_⟩
    exact H.trans (rt_i rfl rfl)
-- 201 GlassWires count (I)I
theorem v201_0 {E : gw_N} {N : NM} {res : Option Value × gw_H} {x1 : Int} (H : ((R x1) ∧ ((x1 = 0 → res = (some (.int (J (G40 N))), hs E (jm N))) ∧ (x1 = 1 → res = (some (.int (J (G143 N))), hs E (jm N))) ∧ (x1 = 2 → (∃ (r1 : Int), Rn 155 [.ref 14] (hs E (jm N)) (some (.int (J r1))) (hs E (jm N)) ∧ res = (some (.int (J r1)), hs E (jm N)))) ∧ (x1 = 3 → res = (some (.int (J (G78 N))), hs E (jm N))) ∧ (x1 = 4 → res = (some (.int (J (G119 N))), hs E (jm N))) ∧ (x1 = 5 → (∃ (r2 : Int), Rn 12 [.ref 44] (hs E (jm N)) (some (.int (J r2))) (hs E (jm N)) ∧ res = (some (.int (J r2)), hs E (jm N)))) ∧ (¬ x1 = 0 → ¬ x1 = 1 → ¬ x1 = 2 → ¬ x1 = 3 → ¬ x1 = 4 → ¬ x1 = 5 → res = (some (.int (J (-102))), hs E (jm N)))))) : Ev 3 201 0 [some (.ref 8), some (.int (J x1))] [] (hs E (jm N)) res := by
  refine w201_0 ?_
  obtain ⟨q1, H⟩ := H
  refine ⟨fun hc => ?_, fun hc => ?_, fun hc => ?_, fun hc => ?_, fun hc => ?_, fun hc => ?_, fun hc0 hc1 hc2 hc3 hc4 hc5 => ?_⟩
  · replace H := (H.1) ((eq_J rfl jl_0 q1 (by decide)).mp hc)
    exact H.trans (rt_i ((congrArg F40 rfl).trans (t40)) rfl)
  · replace H := (H.2.1) ((eq_J rfl jl_1 q1 (by decide)).mp hc)
    exact H.trans (rt_i ((congrArg F143 rfl).trans (t143)) rfl)
  · replace H := (H.2.2.1) ((eq_J rfl jl_2 q1 (by decide)).mp hc)
    obtain ⟨r1, q2, H⟩ := H
    refine ⟨J r1, Rn_to (clx rfl) rfl rfl q2, ?_⟩
    exact H.trans (rt_i rfl rfl)
  · replace H := (H.2.2.2.1) ((eq_J rfl jl_3 q1 (by decide)).mp hc)
    exact H.trans (rt_i ((congrArg F78 rfl).trans (t78)) rfl)
  · replace H := (H.2.2.2.2.1) ((eq_J rfl jl_4 q1 (by decide)).mp hc)
    exact H.trans (rt_i ((congrArg F119 rfl).trans (t119)) rfl)
  · replace H := (H.2.2.2.2.2.1) ((eq_J rfl jl_5 q1 (by decide)).mp hc)
    obtain ⟨r2, q3, H⟩ := H
    refine ⟨J r2, Rn_to (clx rfl) rfl rfl q3, ?_⟩
    exact H.trans (rt_i rfl rfl)
  · replace H := (H.2.2.2.2.2.2) (fun hz => hc0 ((eq_J rfl jl_0 q1 (by decide)).mpr hz)) (fun hz => hc1 ((eq_J rfl jl_1 q1 (by decide)).mpr hz)) (fun hz => hc2 ((eq_J rfl jl_2 q1 (by decide)).mpr hz)) (fun hz => hc3 ((eq_J rfl jl_3 q1 (by decide)).mpr hz)) (fun hz => hc4 ((eq_J rfl jl_4 q1 (by decide)).mpr hz)) (fun hz => hc5 ((eq_J rfl jl_5 q1 (by decide)).mpr hz))
    exact H.trans (rt_i jl_m102 rfl)
-- 202 GlassWires digest ()J
theorem v202_0 {E : gw_N} {N : NM} {res : Option Value × gw_H}  (H : (∃ (r1 : Int64), Rn 159 [.ref 14, .long (G55 N 233)] (hs E (jm N)) (some (.long r1)) (hs E (jm N)) ∧ (∃ (r2 : Int64), Rn 109 [.ref 40, .long r1] (hs E (jm N)) (some (.long r2)) (hs E (jm N)) ∧ (∃ (r3 : Int64), Rn 34 [.ref 44, .long r2] (hs E (jm N)) (some (.long r3)) (hs E (jm N)) ∧ (∃ (r4 : Int64), Rn 127 [.ref 54, .long (G207 N (G140 N r3) (Int32.toInt64 (J (G10 N))))] (hs E (jm N)) (some (.long r4)) (hs E (jm N)) ∧ (∃ (r5 : Int64), Rn 86 [.ref 12, .long r4] (hs E (jm N)) (some (.long r5)) (hs E (jm N)) ∧ res = (some (.long r5), hs E (jm N)))))))) : Ev 3 202 0 [some (.ref 8), none, none] [] (hs E (jm N)) res := by
  refine w202_0 ?_
  obtain ⟨r1, q5, H⟩ := H
  refine ⟨r1, Rn_to (clx (cal ((congr (congrArg F55 rfl) rfl).trans (t55)) rfl)) rfl rfl q5, ?_⟩
  obtain ⟨r2, q4, H⟩ := H
  refine ⟨r2, Rn_to (clx (cal rfl rfl)) rfl rfl q4, ?_⟩
  obtain ⟨r3, q3, H⟩ := H
  refine ⟨r3, Rn_to (clx (cal rfl rfl)) rfl rfl q3, ?_⟩
  obtain ⟨r4, q2, H⟩ := H
  refine ⟨r4, Rn_to (clx (cal ((congr (congr (congrArg F207 rfl) ((congr (congrArg F140 rfl) rfl).trans (t140))) (congrArg Int32.toInt64 ((congrArg F10 rfl).trans (t10)))).trans (t207)) rfl)) rfl rfl q2, ?_⟩
  obtain ⟨r5, q1, H⟩ := H
  refine ⟨r5, Rn_to (clx (cal rfl rfl)) rfl rfl q1, ?_⟩
  exact H.trans (rt_l rfl rfl)
-- 217 GlassWiresModel goodOf (II)I
theorem v217_0 {E : gw_N} {N : NM} {res : Option Value × gw_H} {x1 : Int} {x2 : Int} (H : Ev 3 217 11 [some (.ref 59), none, none, some (.int (J 0)), some (.int (J x1)), some (.int (J x2)), some (.int (J 1)), none, none] [] (hs E (jm N)) res) : Ev 3 217 0 [some (.ref 59), some (.int (J x1)), some (.int (J x2)), none, none, none, none, none, none] [] (hs E (jm N)) res := by
  refine w217_0 ?_
  exact Ev_to (clx (clx (clx (cli jl_0 (cli rfl (cli rfl (cli jl_1 (clx (clx rfl))))))))) rfl rfl H
theorem v217_11 {E : gw_N} {N : NM} {res : Option Value × gw_H} {x3 : Int} {x4 : Int} {x5 : Int} {x6 : Int} (H : ((R x6) ∧ ((x6 = 0 → res = (some (.int (J x3)), hs E (jm N))) ∧ (¬ x6 = 0 → ((R ((N 59) 3)) ∧ ((R x3) ∧ ((((N 59) 3) ≤ x3 → res = (some (.int (J x3)), hs E (jm N))) ∧ (¬ ((N 59) 3) ≤ x3 → (((24 : Int) ≤ x3 → res = (some (.int (J x3)), hs E (jm N))) ∧ (¬ (24 : Int) ≤ x3 → ((0 ≤ x3 ∧ x3 < 40) ∧ ((Q215 N ((N 60) x3)) ∧ ((Q216 N ((N 60) x3)) ∧ ((R (G215 N ((N 60) x3))) ∧ (((G215 N ((N 60) x3)) = 0 → ((R (G216 N ((N 60) x3))) ∧ (((G216 N ((N 60) x3)) = 0 → Ev 3 217 11 [some (.ref 59), none, none, some (.int (J x3)), some (.int (J x4)), some (.int (J x5)), some (.int (J 0)), none, none] [] (hs E (jm N)) res) ∧ (¬ (G216 N ((N 60) x3)) = 0 → ((Q214 N (x4 + (G215 N ((N 60) x3))) (x5 + (G216 N ((N 60) x3)))) ∧ ((R (G214 N (x4 + (G215 N ((N 60) x3))) (x5 + (G216 N ((N 60) x3))))) ∧ (((G214 N (x4 + (G215 N ((N 60) x3))) (x5 + (G216 N ((N 60) x3)))) = 0 → Ev 3 217 11 [some (.ref 59), none, none, some (.int (J x3)), some (.int (J x4)), some (.int (J x5)), some (.int (J 0)), none, none] [] (hs E (jm N)) res) ∧ (¬ (G214 N (x4 + (G215 N ((N 60) x3))) (x5 + (G216 N ((N 60) x3)))) = 0 → Ev 3 217 11 [some (.ref 59), none, none, some (.int (J (x3 + 1))), some (.int (J (x4 + (G215 N ((N 60) x3))))), some (.int (J (x5 + (G216 N ((N 60) x3))))), some (.int (J 1)), none, none] [] (hs E (jm N)) res)))))))) ∧ (¬ (G215 N ((N 60) x3)) = 0 → ((Q214 N (x4 + (G215 N ((N 60) x3))) (x5 + (G216 N ((N 60) x3)))) ∧ ((R (G214 N (x4 + (G215 N ((N 60) x3))) (x5 + (G216 N ((N 60) x3))))) ∧ (((G214 N (x4 + (G215 N ((N 60) x3))) (x5 + (G216 N ((N 60) x3)))) = 0 → Ev 3 217 11 [some (.ref 59), none, none, some (.int (J x3)), some (.int (J x4)), some (.int (J x5)), some (.int (J 0)), none, none] [] (hs E (jm N)) res) ∧ (¬ (G214 N (x4 + (G215 N ((N 60) x3))) (x5 + (G216 N ((N 60) x3)))) = 0 → Ev 3 217 11 [some (.ref 59), none, none, some (.int (J (x3 + 1))), some (.int (J (x4 + (G215 N ((N 60) x3))))), some (.int (J (x5 + (G216 N ((N 60) x3))))), some (.int (J 1)), none, none] [] (hs E (jm N)) res)))))))))))))))))))) : Ev 3 217 11 [some (.ref 59), none, none, some (.int (J x3)), some (.int (J x4)), some (.int (J x5)), some (.int (J x6)), none, none] [] (hs E (jm N)) res := by
  refine w217_11 ?_
  obtain ⟨q1, H⟩ := H
  refine ⟨fun hc => ?_, fun hc => ?_⟩
  · replace H := H.1 ((eq_J rfl jl_0 q1 (by decide)).mp hc)
    exact H.trans (rt_i rfl rfl)
  · replace H := H.2 (fun hz => hc ((eq_J rfl jl_0 q1 (by decide)).mpr hz))
    obtain ⟨q2, q3, H⟩ := H
    refine ⟨fun hc => ?_, fun hc => ?_⟩
    · replace H := H.1 ((le_J (fld_J (jf_base _ _)) rfl q2 q3).mp hc)
      exact H.trans (rt_i rfl rfl)
    · replace H := H.2 (fun hz => hc ((le_J (fld_J (jf_base _ _)) rfl q2 q3).mpr hz))
      refine ⟨fun hc => ?_, fun hc => ?_⟩
      · replace H := H.1 ((le_J jl_24 rfl (by decide) q3).mp hc)
        exact H.trans (rt_i rfl rfl)
      · replace H := H.2 (fun hz => hc ((le_J jl_24 rfl (by decide) q3).mpr hz))
        obtain ⟨q4, H⟩ := H
        refine ⟨inb_J rfl q4 (by decide), ?_⟩
        obtain ⟨q5, H⟩ := H
        refine ⟨inb_J rfl q4 (by decide), ?_⟩
        obtain ⟨q6, H⟩ := H
        obtain ⟨q7, H⟩ := H
        refine ⟨fun hc => ?_, fun hc => ?_⟩
        · replace H := H.1 ((eq_J ((congr (congrArg F215 rfl) (rd_J (jf_base _ _) rfl q4 (by decide))).trans (t215 q5)) jl_0 q7 (by decide)).mp hc)
          obtain ⟨q8, H⟩ := H
          refine ⟨fun hc => ?_, fun hc => ?_⟩
          · replace H := H.1 ((eq_J ((congr (congrArg F216 rfl) (rd_J (jf_base _ _) rfl q4 (by decide))).trans (t216 q6)) jl_0 q8 (by decide)).mp hc)
            exact Ev_to (clx (clx (clx (cli rfl (cli rfl (cli rfl (cli jl_0 (clx (clx rfl))))))))) rfl rfl H
          · replace H := H.2 (fun hz => hc ((eq_J ((congr (congrArg F216 rfl) (rd_J (jf_base _ _) rfl q4 (by decide))).trans (t216 q6)) jl_0 q8 (by decide)).mpr hz))
            obtain ⟨q9, H⟩ := H
            obtain ⟨q10, H⟩ := H
            refine ⟨fun hc => ?_, fun hc => ?_⟩
            · replace H := H.1 ((eq_J ((congr (congr (congrArg F214 rfl) (add_J rfl ((congr (congrArg F215 rfl) (rd_J (jf_base _ _) rfl q4 (by decide))).trans (t215 q5)))) (add_J rfl ((congr (congrArg F216 rfl) (rd_J (jf_base _ _) rfl q4 (by decide))).trans (t216 q6)))).trans (t214 q9)) jl_0 q10 (by decide)).mp hc)
              exact Ev_to (clx (clx (clx (cli rfl (cli rfl (cli rfl (cli jl_0 (clx (clx rfl))))))))) rfl rfl H
            · replace H := H.2 (fun hz => hc ((eq_J ((congr (congr (congrArg F214 rfl) (add_J rfl ((congr (congrArg F215 rfl) (rd_J (jf_base _ _) rfl q4 (by decide))).trans (t215 q5)))) (add_J rfl ((congr (congrArg F216 rfl) (rd_J (jf_base _ _) rfl q4 (by decide))).trans (t216 q6)))).trans (t214 q9)) jl_0 q10 (by decide)).mpr hz))
              exact Ev_to (clx (clx (clx (cli (add_J rfl jl_1) (cli (add_J rfl ((congr (congrArg F215 rfl) (rd_J (jf_base _ _) rfl q4 (by decide))).trans (t215 q5))) (cli (add_J rfl ((congr (congrArg F216 rfl) (rd_J (jf_base _ _) rfl q4 (by decide))).trans (t216 q6))) (cli jl_1 (clx (clx rfl))))))))) rfl rfl H
        · replace H := H.2 (fun hz => hc ((eq_J ((congr (congrArg F215 rfl) (rd_J (jf_base _ _) rfl q4 (by decide))).trans (t215 q5)) jl_0 q7 (by decide)).mpr hz))
          obtain ⟨q11, H⟩ := H
          obtain ⟨q12, H⟩ := H
          refine ⟨fun hc => ?_, fun hc => ?_⟩
          · replace H := H.1 ((eq_J ((congr (congr (congrArg F214 rfl) (add_J rfl ((congr (congrArg F215 rfl) (rd_J (jf_base _ _) rfl q4 (by decide))).trans (t215 q5)))) (add_J rfl ((congr (congrArg F216 rfl) (rd_J (jf_base _ _) rfl q4 (by decide))).trans (t216 q6)))).trans (t214 q11)) jl_0 q12 (by decide)).mp hc)
            exact Ev_to (clx (clx (clx (cli rfl (cli rfl (cli rfl (cli jl_0 (clx (clx rfl))))))))) rfl rfl H
          · replace H := H.2 (fun hz => hc ((eq_J ((congr (congr (congrArg F214 rfl) (add_J rfl ((congr (congrArg F215 rfl) (rd_J (jf_base _ _) rfl q4 (by decide))).trans (t215 q5)))) (add_J rfl ((congr (congrArg F216 rfl) (rd_J (jf_base _ _) rfl q4 (by decide))).trans (t216 q6)))).trans (t214 q11)) jl_0 q12 (by decide)).mpr hz))
            exact Ev_to (clx (clx (clx (cli (add_J rfl jl_1) (cli (add_J rfl ((congr (congrArg F215 rfl) (rd_J (jf_base _ _) rfl q4 (by decide))).trans (t215 q5))) (cli (add_J rfl ((congr (congrArg F216 rfl) (rd_J (jf_base _ _) rfl q4 (by decide))).trans (t216 q6))) (cli jl_1 (clx (clx rfl))))))))) rfl rfl H
-- 221 GlassWiresModel lay (IZ)I
theorem v221_0 {E : gw_N} {N : NM} {res : Option Value × gw_H} {x1 : Int} {x2 : Int} (H : ((Q220 N x1) ∧ ((R (G220 N x1)) ∧ (((G220 N x1) = 0 → res = (some (.int (J (-101))), hs E (jm N))) ∧ (¬ (G220 N x1) = 0 → ((0 ≤ x1 ∧ x1 < 30) ∧ ((R ((N 64) x1)) ∧ ((((N 64) x1) = 0 → ((x2 = 0 ∨ x2 = 1) ∧ res = (some (.int (J 0)), hs E (jm (upZ N 64 (updZ (N 64) x1 x2)))))) ∧ (¬ ((N 64) x1) = 0 → ((x2 = 0 ∨ x2 = 1) ∧ res = (some (.int (J 1)), hs E (jm (upZ N 64 (updZ (N 64) x1 x2)))))))))))))) : Ev 3 221 0 [some (.ref 59), some (.int (J x1)), some (.int (J x2)), none] [] (hs E (jm N)) res := by
  refine w221_0 ?_
  obtain ⟨q1, H⟩ := H
  obtain ⟨q2, H⟩ := H
  refine ⟨fun hc => ?_, fun hc => ?_⟩
  · replace H := H.1 ((eq_J ((congr (congrArg F220 rfl) rfl).trans (t220 q1)) jl_0 q2 (by decide)).mp hc)
    exact H.trans (rt_i jl_m101 rfl)
  · replace H := H.2 (fun hz => hc ((eq_J ((congr (congrArg F220 rfl) rfl).trans (t220 q1)) jl_0 q2 (by decide)).mpr hz))
    obtain ⟨q3, H⟩ := H
    refine ⟨inb_J rfl q3 (by decide), ?_⟩
    obtain ⟨q4, H⟩ := H
    refine ⟨fun hc => ?_, fun hc => ?_⟩
    · replace H := H.1 ((eq_J (rd_J (jf_base _ _) rfl q3 (by decide)) jl_0 q4 (by decide)).mp hc)
      refine ⟨inb_J rfl q3 (by decide), ?_⟩
      obtain ⟨q5, H⟩ := H
      exact H.trans (rt_i jl_0 (jm_up rfl (jf_upd (jf_base _ _) rfl q3 (by decide) (and1_J rfl q5))))
    · replace H := H.2 (fun hz => hc ((eq_J (rd_J (jf_base _ _) rfl q3 (by decide)) jl_0 q4 (by decide)).mpr hz))
      refine ⟨inb_J rfl q3 (by decide), ?_⟩
      obtain ⟨q6, H⟩ := H
      exact H.trans (rt_i jl_1 (jm_up rfl (jf_upd (jf_base _ _) rfl q3 (by decide) (and1_J rfl q6))))
-- 222 GlassWiresModel solder (IZ)I
theorem v222_0 {E : gw_N} {N : NM} {res : Option Value × gw_H} {x1 : Int} {x2 : Int} (H : ((Q220 N x1) ∧ ((R (G220 N x1)) ∧ (((G220 N x1) = 0 → res = (some (.int (J (-101))), hs E (jm N))) ∧ (¬ (G220 N x1) = 0 → ((0 ≤ x1 ∧ x1 < 30) ∧ ((R ((N 65) x1)) ∧ ((((N 65) x1) = 0 → ((x2 = 0 ∨ x2 = 1) ∧ res = (some (.int (J 0)), hs E (jm (upZ N 65 (updZ (N 65) x1 x2)))))) ∧ (¬ ((N 65) x1) = 0 → ((x2 = 0 ∨ x2 = 1) ∧ res = (some (.int (J 1)), hs E (jm (upZ N 65 (updZ (N 65) x1 x2)))))))))))))) : Ev 3 222 0 [some (.ref 59), some (.int (J x1)), some (.int (J x2)), none] [] (hs E (jm N)) res := by
  refine w222_0 ?_
  obtain ⟨q1, H⟩ := H
  obtain ⟨q2, H⟩ := H
  refine ⟨fun hc => ?_, fun hc => ?_⟩
  · replace H := H.1 ((eq_J ((congr (congrArg F220 rfl) rfl).trans (t220 q1)) jl_0 q2 (by decide)).mp hc)
    exact H.trans (rt_i jl_m101 rfl)
  · replace H := H.2 (fun hz => hc ((eq_J ((congr (congrArg F220 rfl) rfl).trans (t220 q1)) jl_0 q2 (by decide)).mpr hz))
    obtain ⟨q3, H⟩ := H
    refine ⟨inb_J rfl q3 (by decide), ?_⟩
    obtain ⟨q4, H⟩ := H
    refine ⟨fun hc => ?_, fun hc => ?_⟩
    · replace H := H.1 ((eq_J (rd_J (jf_base _ _) rfl q3 (by decide)) jl_0 q4 (by decide)).mp hc)
      refine ⟨inb_J rfl q3 (by decide), ?_⟩
      obtain ⟨q5, H⟩ := H
      exact H.trans (rt_i jl_0 (jm_up rfl (jf_upd (jf_base _ _) rfl q3 (by decide) (and1_J rfl q5))))
    · replace H := H.2 (fun hz => hc ((eq_J (rd_J (jf_base _ _) rfl q3 (by decide)) jl_0 q4 (by decide)).mpr hz))
      refine ⟨inb_J rfl q3 (by decide), ?_⟩
      obtain ⟨q6, H⟩ := H
      exact H.trans (rt_i jl_1 (jm_up rfl (jf_upd (jf_base _ _) rfl q3 (by decide) (and1_J rfl q6))))
-- 225 GlassWiresModel edgesOf (I)I
theorem v225_0 {E : gw_N} {N : NM} {res : Option Value × gw_H} {x1 : Int} (H : Ev 3 225 4 [some (.ref 59), some (.int (J x1)), some (.int (J 0)), some (.int (J 0))] [] (hs E (jm N)) res) : Ev 3 225 0 [some (.ref 59), some (.int (J x1)), none, none] [] (hs E (jm N)) res := by
  refine w225_0 ?_
  exact Ev_to (clx (cli rfl (cli jl_0 (cli jl_0 rfl)))) rfl rfl H
theorem v225_4 {E : gw_N} {N : NM} {res : Option Value × gw_H} {x1 : Int} {x2 : Int} {x3 : Int} (H : ((R x3) ∧ (((162 : Int) ≤ x3 → res = (some (.int (J x2)), hs E (jm N))) ∧ (¬ (162 : Int) ≤ x3 → (∃ (r1 : Int), Rn 224 [.ref 59, .int (J x1), .int (J x3)] (hs E (jm N)) (some (.int (J r1))) (hs E (jm N)) ∧ ((R r1) ∧ ((r1 = 0 → Ev 3 225 4 [some (.ref 59), some (.int (J x1)), some (.int (J (x2 + 0))), some (.int (J (x3 + 1)))] [] (hs E (jm N)) res) ∧ (¬ r1 = 0 → Ev 3 225 4 [some (.ref 59), some (.int (J x1)), some (.int (J (x2 + 1))), some (.int (J (x3 + 1)))] [] (hs E (jm N)) res)))))))) : Ev 3 225 4 [some (.ref 59), some (.int (J x1)), some (.int (J x2)), some (.int (J x3))] [] (hs E (jm N)) res := by
  refine w225_4 ?_
  obtain ⟨q1, H⟩ := H
  refine ⟨fun hc => ?_, fun hc => ?_⟩
  · replace H := H.1 ((le_J jl_162 rfl (by decide) q1).mp hc)
    exact H.trans (rt_i rfl rfl)
  · replace H := H.2 (fun hz => hc ((le_J jl_162 rfl (by decide) q1).mpr hz))
    obtain ⟨r1, q3, H⟩ := H
    refine ⟨J r1, Rn_to (clx (cai rfl (cai rfl rfl))) rfl rfl q3, ?_⟩
    obtain ⟨q2, H⟩ := H
    refine ⟨fun hc => ?_, fun hc => ?_⟩
    · replace H := H.1 ((eq_J rfl jl_0 q2 (by decide)).mp hc)
      exact Ev_to (clx (cli rfl (cli (add_J rfl jl_0) (cli (add_J rfl jl_1) rfl)))) rfl rfl H
    · replace H := H.2 (fun hz => hc ((eq_J rfl jl_0 q2 (by decide)).mpr hz))
      exact Ev_to (clx (cli rfl (cli (add_J rfl jl_1) (cli (add_J rfl jl_1) rfl)))) rfl rfl H
-- 230 GlassWiresModel findHolds ()V
theorem v230_0 {E : gw_N} {N : NM} {res : Option Value × gw_H}  (H : Ev 3 230 2 [some (.ref 59), some (.int (J 0)), none, none] [] (hs E (jm N)) res) : Ev 3 230 0 [some (.ref 59), none, none, none] [] (hs E (jm N)) res := by
  refine w230_0 ?_
  exact Ev_to (clx (cli jl_0 (clx (clx rfl)))) rfl rfl H
theorem v230_2 {E : gw_N} {N : NM} {res : Option Value × gw_H} {x1 : Int} (H : ((R ((N 59) 4)) ∧ ((R x1) ∧ ((((N 59) 4) ≤ x1 → Ev 3 230 46 [some (.ref 59), some (.int (J 1)), none, none] [] (hs E (jm N)) res) ∧ (¬ ((N 59) 4) ≤ x1 → ((0 ≤ x1 ∧ x1 < 30) ∧ ((R ((N 64) x1)) ∧ ((((N 64) x1) = 0 → Ev 3 230 2 [some (.ref 59), some (.int (J (x1 + 1))), none, none] [] (hs E (jm (upZ N 66 (updZ (N 66) x1 0)))) res) ∧ (¬ ((N 64) x1) = 0 → (∃ (r1 : Int), Rn 227 [.ref 59, .int (J x1)] (hs E (jm N)) (some (.int (J r1))) (hs E (jm N)) ∧ ((R r1) ∧ ((r1 = 0 → Ev 3 230 2 [some (.ref 59), some (.int (J (x1 + 1))), none, none] [] (hs E (jm (upZ N 66 (updZ (N 66) x1 0)))) res) ∧ (¬ r1 = 0 → Ev 3 230 2 [some (.ref 59), some (.int (J (x1 + 1))), none, none] [] (hs E (jm (upZ N 66 (updZ (N 66) x1 1)))) res))))))))))))) : Ev 3 230 2 [some (.ref 59), some (.int (J x1)), none, none] [] (hs E (jm N)) res := by
  refine w230_2 ?_
  obtain ⟨q1, q2, H⟩ := H
  refine ⟨fun hc => ?_, fun hc => ?_⟩
  · replace H := H.1 ((le_J (fld_J (jf_base _ _)) rfl q1 q2).mp hc)
    exact Ev_to (clx (cli jl_1 (clx (clx rfl)))) rfl rfl H
  · replace H := H.2 (fun hz => hc ((le_J (fld_J (jf_base _ _)) rfl q1 q2).mpr hz))
    obtain ⟨q3, H⟩ := H
    refine ⟨inb_J rfl q3 (by decide), ?_⟩
    obtain ⟨q4, H⟩ := H
    refine ⟨fun hc => ?_, fun hc => ?_⟩
    · replace H := H.1 ((eq_J (rd_J (jf_base _ _) rfl q3 (by decide)) jl_0 q4 (by decide)).mp hc)
      refine ⟨inb_J rfl q3 (by decide), ?_⟩
      exact Ev_to (clx (cli (add_J rfl jl_1) (clx (clx rfl)))) rfl (jm_up rfl (jf_upd (jf_base _ _) rfl q3 (by decide) (and1_J jl_0 (by decide : (0 : Int) = 0 ∨ (0 : Int) = 1)))) H
    · replace H := H.2 (fun hz => hc ((eq_J (rd_J (jf_base _ _) rfl q3 (by decide)) jl_0 q4 (by decide)).mpr hz))
      obtain ⟨r1, q6, H⟩ := H
      refine ⟨J r1, Rn_to (clx (cai rfl rfl)) rfl rfl q6, ?_⟩
      obtain ⟨q5, H⟩ := H
      refine ⟨fun hc => ?_, fun hc => ?_⟩
      · replace H := H.1 ((eq_J rfl jl_0 q5 (by decide)).mp hc)
        refine ⟨inb_J rfl q3 (by decide), ?_⟩
        exact Ev_to (clx (cli (add_J rfl jl_1) (clx (clx rfl)))) rfl (jm_up rfl (jf_upd (jf_base _ _) rfl q3 (by decide) (and1_J jl_0 (by decide : (0 : Int) = 0 ∨ (0 : Int) = 1)))) H
      · replace H := H.2 (fun hz => hc ((eq_J rfl jl_0 q5 (by decide)).mpr hz))
        refine ⟨inb_J rfl q3 (by decide), ?_⟩
        exact Ev_to (clx (cli (add_J rfl jl_1) (clx (clx rfl)))) rfl (jm_up rfl (jf_upd (jf_base _ _) rfl q3 (by decide) (and1_J jl_1 (by decide : (1 : Int) = 0 ∨ (1 : Int) = 1)))) H
theorem v230_46 {E : gw_N} {N : NM} {res : Option Value × gw_H} {x1 : Int} (H : ((R x1) ∧ ((x1 = 0 → res = (none, hs E (jm N))) ∧ (¬ x1 = 0 → Ev 3 230 54 [some (.ref 59), some (.int (J 0)), some (.int (J 0)), none] [] (hs E (jm N)) res)))) : Ev 3 230 46 [some (.ref 59), some (.int (J x1)), none, none] [] (hs E (jm N)) res := by
  refine w230_46 ?_
  obtain ⟨q1, H⟩ := H
  refine ⟨fun hc => ?_, fun hc => ?_⟩
  · replace H := H.1 ((eq_J rfl jl_0 q1 (by decide)).mp hc)
    exact H.trans (rt_n rfl)
  · replace H := H.2 (fun hz => hc ((eq_J rfl jl_0 q1 (by decide)).mpr hz))
    exact Ev_to (clx (cli jl_0 (cli jl_0 (clx rfl)))) rfl rfl H
theorem v230_54 {E : gw_N} {N : NM} {res : Option Value × gw_H} {x1 : Int} {x2 : Int} (H : ((R ((N 59) 4)) ∧ ((R x2) ∧ ((((N 59) 4) ≤ x2 → Ev 3 230 46 [some (.ref 59), some (.int (J x1)), none, none] [] (hs E (jm N)) res) ∧ (¬ ((N 59) 4) ≤ x2 → Ev 3 230 64 [some (.ref 59), some (.int (J x1)), some (.int (J x2)), some (.int (J 0))] [] (hs E (jm N)) res))))) : Ev 3 230 54 [some (.ref 59), some (.int (J x1)), some (.int (J x2)), none] [] (hs E (jm N)) res := by
  refine w230_54 ?_
  obtain ⟨q1, q2, H⟩ := H
  refine ⟨fun hc => ?_, fun hc => ?_⟩
  · replace H := H.1 ((le_J (fld_J (jf_base _ _)) rfl q1 q2).mp hc)
    exact Ev_to (clx (cli rfl (clx (clx rfl)))) rfl rfl H
  · replace H := H.2 (fun hz => hc ((le_J (fld_J (jf_base _ _)) rfl q1 q2).mpr hz))
    exact Ev_to (clx (cli rfl (cli rfl (cli jl_0 rfl)))) rfl rfl H
theorem v230_64 {E : gw_N} {N : NM} {res : Option Value × gw_H} {x1 : Int} {x2 : Int} {x3 : Int} (H : ((R ((N 59) 4)) ∧ ((R x3) ∧ ((((N 59) 4) ≤ x3 → Ev 3 230 54 [some (.ref 59), some (.int (J x1)), some (.int (J (x2 + 1))), none] [] (hs E (jm N)) res) ∧ (¬ ((N 59) 4) ≤ x3 → ((0 ≤ x2 ∧ x2 < 30) ∧ ((R ((N 64) x2)) ∧ ((((N 64) x2) = 0 → Ev 3 230 64 [some (.ref 59), some (.int (J x1)), some (.int (J x2)), some (.int (J (x3 + 1)))] [] (hs E (jm N)) res) ∧ (¬ ((N 64) x2) = 0 → ((0 ≤ x3 ∧ x3 < 30) ∧ ((R ((N 64) x3)) ∧ ((((N 64) x3) = 0 → Ev 3 230 64 [some (.ref 59), some (.int (J x1)), some (.int (J x2)), some (.int (J (x3 + 1)))] [] (hs E (jm N)) res) ∧ (¬ ((N 64) x3) = 0 → ((R ((N 66) x2)) ∧ ((((N 66) x2) = 0 → Ev 3 230 64 [some (.ref 59), some (.int (J x1)), some (.int (J x2)), some (.int (J (x3 + 1)))] [] (hs E (jm N)) res) ∧ (¬ ((N 66) x2) = 0 → ((R ((N 66) x3)) ∧ ((((N 66) x3) = 0 → (∃ (r1 : Int), Rn 229 [.ref 59, .int (J x2), .int (J x3)] (hs E (jm N)) (some (.int (J r1))) (hs E (jm N)) ∧ ((R r1) ∧ ((r1 = 0 → Ev 3 230 64 [some (.ref 59), some (.int (J x1)), some (.int (J x2)), some (.int (J (x3 + 1)))] [] (hs E (jm N)) res) ∧ (¬ r1 = 0 → Ev 3 230 64 [some (.ref 59), some (.int (J 1)), some (.int (J x2)), some (.int (J (x3 + 1)))] [] (hs E (jm (upZ N 66 (updZ (N 66) x3 1)))) res))))) ∧ (¬ ((N 66) x3) = 0 → Ev 3 230 64 [some (.ref 59), some (.int (J x1)), some (.int (J x2)), some (.int (J (x3 + 1)))] [] (hs E (jm N)) res))))))))))))))))))) : Ev 3 230 64 [some (.ref 59), some (.int (J x1)), some (.int (J x2)), some (.int (J x3))] [] (hs E (jm N)) res := by
  refine w230_64 ?_
  obtain ⟨q1, q2, H⟩ := H
  refine ⟨fun hc => ?_, fun hc => ?_⟩
  · replace H := H.1 ((le_J (fld_J (jf_base _ _)) rfl q1 q2).mp hc)
    exact Ev_to (clx (cli rfl (cli (add_J rfl jl_1) (clx rfl)))) rfl rfl H
  · replace H := H.2 (fun hz => hc ((le_J (fld_J (jf_base _ _)) rfl q1 q2).mpr hz))
    obtain ⟨q3, H⟩ := H
    refine ⟨inb_J rfl q3 (by decide), ?_⟩
    obtain ⟨q4, H⟩ := H
    refine ⟨fun hc => ?_, fun hc => ?_⟩
    · replace H := H.1 ((eq_J (rd_J (jf_base _ _) rfl q3 (by decide)) jl_0 q4 (by decide)).mp hc)
      exact Ev_to (clx (cli rfl (cli rfl (cli (add_J rfl jl_1) rfl)))) rfl rfl H
    · replace H := H.2 (fun hz => hc ((eq_J (rd_J (jf_base _ _) rfl q3 (by decide)) jl_0 q4 (by decide)).mpr hz))
      obtain ⟨q5, H⟩ := H
      refine ⟨inb_J rfl q5 (by decide), ?_⟩
      obtain ⟨q6, H⟩ := H
      refine ⟨fun hc => ?_, fun hc => ?_⟩
      · replace H := H.1 ((eq_J (rd_J (jf_base _ _) rfl q5 (by decide)) jl_0 q6 (by decide)).mp hc)
        exact Ev_to (clx (cli rfl (cli rfl (cli (add_J rfl jl_1) rfl)))) rfl rfl H
      · replace H := H.2 (fun hz => hc ((eq_J (rd_J (jf_base _ _) rfl q5 (by decide)) jl_0 q6 (by decide)).mpr hz))
        refine ⟨inb_J rfl q3 (by decide), ?_⟩
        obtain ⟨q7, H⟩ := H
        refine ⟨fun hc => ?_, fun hc => ?_⟩
        · replace H := H.1 ((eq_J (rd_J (jf_base _ _) rfl q3 (by decide)) jl_0 q7 (by decide)).mp hc)
          exact Ev_to (clx (cli rfl (cli rfl (cli (add_J rfl jl_1) rfl)))) rfl rfl H
        · replace H := H.2 (fun hz => hc ((eq_J (rd_J (jf_base _ _) rfl q3 (by decide)) jl_0 q7 (by decide)).mpr hz))
          refine ⟨inb_J rfl q5 (by decide), ?_⟩
          obtain ⟨q8, H⟩ := H
          refine ⟨fun hc => ?_, fun hc => ?_⟩
          · replace H := H.1 ((eq_J (rd_J (jf_base _ _) rfl q5 (by decide)) jl_0 q8 (by decide)).mp hc)
            obtain ⟨r1, q10, H⟩ := H
            refine ⟨J r1, Rn_to (clx (cai rfl (cai rfl rfl))) rfl rfl q10, ?_⟩
            obtain ⟨q9, H⟩ := H
            refine ⟨fun hc => ?_, fun hc => ?_⟩
            · replace H := H.1 ((eq_J rfl jl_0 q9 (by decide)).mp hc)
              exact Ev_to (clx (cli rfl (cli rfl (cli (add_J rfl jl_1) rfl)))) rfl rfl H
            · replace H := H.2 (fun hz => hc ((eq_J rfl jl_0 q9 (by decide)).mpr hz))
              refine ⟨inb_J rfl q5 (by decide), ?_⟩
              exact Ev_to (clx (cli jl_1 (cli rfl (cli (add_J rfl jl_1) rfl)))) rfl (jm_up rfl (jf_upd (jf_base _ _) rfl q5 (by decide) (and1_J jl_1 (by decide : (1 : Int) = 0 ∨ (1 : Int) = 1)))) H
          · replace H := H.2 (fun hz => hc ((eq_J (rd_J (jf_base _ _) rfl q5 (by decide)) jl_0 q8 (by decide)).mpr hz))
            exact Ev_to (clx (cli rfl (cli rfl (cli (add_J rfl jl_1) rfl)))) rfl rfl H
