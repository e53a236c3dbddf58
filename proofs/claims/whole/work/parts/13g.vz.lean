/-! by program (wpz.py): the formulas over the integers -/
-- 156 GlassWires$Wires add (LGlassWires$Page;II)I
theorem v156_0 {E : gw_N} {N : NM} {res : Option Value × gw_H} {x2 : Int} {x3 : Int} (H : ((R ((N 14) 7)) ∧ ((((N 14) 7) < 30 → ((0 ≤ ((N 14) 7) ∧ ((N 14) 7) < 30) ∧ ((Q312 (upZ (upZ (upZ N 14 (updZ (N 14) 7 (((N 14) 7) + 1))) 15 (updZ (N 15) ((N 14) 7) 1)) 16 (updZ (N 16) ((N 14) 7) 0)) (G78 (upZ (upZ (upZ N 14 (updZ (N 14) 7 (((N 14) 7) + 1))) 15 (updZ (N 15) ((N 14) 7) 1)) 16 (updZ (N 16) ((N 14) 7) 0))) 24) ∧ (∃ (N1 : NM), Rn 157 [.ref 14, .int (J ((N 14) 7)), .ref 12, .int (J x2), .int (J x3)] (hs E (jm (upZ (upZ (upZ (upZ (upZ (upZ N 14 (updZ (N 14) 7 (((N 14) 7) + 1))) 15 (updZ (N 15) ((N 14) 7) 1)) 16 (updZ (N 16) ((N 14) 7) 0)) 17 (updZ (N 17) ((N 14) 7) (G312 (upZ (upZ (upZ N 14 (updZ (N 14) 7 (((N 14) 7) + 1))) 15 (updZ (N 15) ((N 14) 7) 1)) 16 (updZ (N 16) ((N 14) 7) 0)) (G78 (upZ (upZ (upZ N 14 (updZ (N 14) 7 (((N 14) 7) + 1))) 15 (updZ (N 15) ((N 14) 7) 1)) 16 (updZ (N 16) ((N 14) 7) 0))) 24))) 18 (updZ (N 18) ((N 14) 7) 0)) 19 (updZ (N 19) ((N 14) 7) 0)))) none (hs E (jm N1)) ∧ res = (some (.int (J ((N 14) 7))), hs E (jm N1)))))) ∧ (¬ ((N 14) 7) < 30 → res = (some (.int (J (-104))), hs E (jm N)))))) : Ev 5 156 0 [some (.ref 14), some (.ref 12), some (.int (J x2)), some (.int (J x3)), none] [] (hs E (jm N)) res := by
  refine w156_0 ?_
  obtain ⟨q1, H⟩ := H
  refine ⟨fun hc => ?_, fun hc => ?_⟩
  · replace H := H.1 ((lt_J (fld_J (jf_base _ _)) jl_30 q1 (by decide)).mp hc)
    obtain ⟨q2, H⟩ := H
    refine ⟨inb_J (fld_J (jf_base _ _)) q2 (by decide), ?_⟩
    refine ⟨inb_J (fld_J (jf_base _ _)) q2 (by decide), ?_⟩
    obtain ⟨q3, H⟩ := H
    refine ⟨inb_J (fld_J (jf_base _ _)) q2 (by decide), ?_⟩
    refine ⟨inb_J (fld_J (jf_base _ _)) q2 (by decide), ?_⟩
    refine ⟨inb_J (fld_J (jf_base _ _)) q2 (by decide), ?_⟩
    obtain ⟨N1, q4, H⟩ := H
    refine ⟨jm N1, Rn_to (clx (cai (fld_J (jf_base _ _)) (clx (cai rfl (cai rfl rfl))))) (jm_up (jm_up (jm_up (jm_up (jm_up (jm_up rfl (jf_updk (jf_base _ _) (add_J (fld_J (jf_base _ _)) jl_1))) (jf_upd (jf_base _ _) (fld_J (jf_base _ _)) q2 (by decide) (and1_J jl_1 (by decide : (1 : Int) = 0 ∨ (1 : Int) = 1)))) (jf_upd (jf_base _ _) (fld_J (jf_base _ _)) q2 (by decide) (and1_J jl_0 (by decide : (0 : Int) = 0 ∨ (0 : Int) = 1)))) (jf_upd (jf_base _ _) (fld_J (jf_base _ _)) q2 (by decide) ((congr (congr (congrArg F312 (jm_up (jm_up (jm_up rfl (jf_updk (jf_base _ _) (add_J (fld_J (jf_base _ _)) jl_1))) (jf_upd (jf_base _ _) (fld_J (jf_base _ _)) q2 (by decide) (and1_J jl_1 (by decide : (1 : Int) = 0 ∨ (1 : Int) = 1)))) (jf_upd (jf_base _ _) (fld_J (jf_base _ _)) q2 (by decide) (and1_J jl_0 (by decide : (0 : Int) = 0 ∨ (0 : Int) = 1))))) ((congrArg F78 (jm_up (jm_up (jm_up rfl (jf_updk (jf_base _ _) (add_J (fld_J (jf_base _ _)) jl_1))) (jf_upd (jf_base _ _) (fld_J (jf_base _ _)) q2 (by decide) (and1_J jl_1 (by decide : (1 : Int) = 0 ∨ (1 : Int) = 1)))) (jf_upd (jf_base _ _) (fld_J (jf_base _ _)) q2 (by decide) (and1_J jl_0 (by decide : (0 : Int) = 0 ∨ (0 : Int) = 1))))).trans (t78))) jl_24).trans (t312 q3)))) (jf_upd (jf_base _ _) (fld_J (jf_base _ _)) q2 (by decide) jl_0)) (jf_upd (jf_base _ _) (fld_J (jf_base _ _)) q2 (by decide) jl_0)) rfl q4, ?_⟩
    exact H.trans (rt_i (fld_J (jf_base _ _)) rfl)
  · replace H := H.2 (fun hz => hc ((lt_J (fld_J (jf_base _ _)) jl_30 q1 (by decide)).mpr hz))
    exact H.trans (rt_i jl_m104 rfl)
-- 197 GlassWires harms (II)I
theorem v197_0 {E : gw_N} {N : NM} {res : Option Value × gw_H} {x1 : Int} {x2 : Int} (H : ((Q5 N x1) ∧ ((R (G5 N x1)) ∧ (((G5 N x1) = 0 → res = (some (.int (J (-101))), hs E (jm N))) ∧ (¬ (G5 N x1) = 0 → ((Q204 N x2) ∧ ((R (G204 N x2)) ∧ (((G204 N x2) = 0 → res = (some (.int (J (-102))), hs E (jm N))) ∧ (¬ (G204 N x2) = 0 → (∃ (r1 : Int), Rn 31 [.ref 44, .int (J x1), .int (J x2)] (hs E (jm N)) (some (.int (J r1))) (hs E (jm N)) ∧ res = (some (.int (J r1)), hs E (jm N)))))))))))) : Ev 5 197 0 [some (.ref 8), some (.int (J x1)), some (.int (J x2))] [] (hs E (jm N)) res := by
  refine w197_0 ?_
  obtain ⟨q1, H⟩ := H
  refine ⟨Eq.mpr (congr (congrArg P5 rfl) rfl) (p5 q1), ?_⟩
  obtain ⟨q2, H⟩ := H
  refine ⟨fun hc => ?_, fun hc => ?_⟩
  · replace H := H.1 ((eq_J ((congr (congrArg F5 rfl) rfl).trans (t5 q1)) jl_0 q2 (by decide)).mp hc)
    exact H.trans (rt_i jl_m101 rfl)
  · replace H := H.2 (fun hz => hc ((eq_J ((congr (congrArg F5 rfl) rfl).trans (t5 q1)) jl_0 q2 (by decide)).mpr hz))
    obtain ⟨q3, H⟩ := H
    obtain ⟨q4, H⟩ := H
    refine ⟨fun hc => ?_, fun hc => ?_⟩
    · replace H := H.1 ((eq_J ((congr (congrArg F204 rfl) rfl).trans (t204 q3)) jl_0 q4 (by decide)).mp hc)
      exact H.trans (rt_i jl_m102 rfl)
    · replace H := H.2 (fun hz => hc ((eq_J ((congr (congrArg F204 rfl) rfl).trans (t204 q3)) jl_0 q4 (by decide)).mpr hz))
      obtain ⟨r1, q5, H⟩ := H
      refine ⟨J r1, Rn_to (clx (cai rfl (cai rfl rfl))) rfl rfl q5, ?_⟩
      exact H.trans (rt_i rfl rfl)
-- 198 GlassWires safe (III)I
theorem v198_0 {E : gw_N} {N : NM} {res : Option Value × gw_H} {x1 : Int} {x2 : Int} {x3 : Int} (H : ((Q5 N x1) ∧ ((R (G5 N x1)) ∧ (((G5 N x1) = 0 → res = (some (.int (J (-101))), hs E (jm N))) ∧ (¬ (G5 N x1) = 0 → ((Q94 N x2) ∧ ((R (G94 N x2)) ∧ (((G94 N x2) = 0 → res = (some (.int (J (-101))), hs E (jm N))) ∧ (¬ (G94 N x2) = 0 → ((R x3) ∧ ((x3 = 0 → ((Q99 N x2) ∧ (∃ (r1 : Int), Rn 32 [.ref 44, .int (J x1)] (hs E (jm N)) (some (.int (J r1))) (hs E (jm N)) ∧ ((R (G99 N x2)) ∧ ((R r1) ∧ (((G99 N x2) ≤ r1 → ((x3 = 0 → res = (some (.int (J (G99 N x2))), hs E (jm N))) ∧ (¬ x3 = 0 → res = (some (.int (J r1)), hs E (jm N))))) ∧ (¬ (G99 N x2) ≤ r1 → res = (some (.int (J (-1))), hs E (jm N))))))))) ∧ (¬ x3 = 0 → ((x3 = 1 → ((Q99 N x2) ∧ (∃ (r2 : Int), Rn 32 [.ref 44, .int (J x1)] (hs E (jm N)) (some (.int (J r2))) (hs E (jm N)) ∧ ((R (G99 N x2)) ∧ ((R r2) ∧ (((G99 N x2) ≤ r2 → ((x3 = 0 → res = (some (.int (J (G99 N x2))), hs E (jm N))) ∧ (¬ x3 = 0 → res = (some (.int (J r2)), hs E (jm N))))) ∧ (¬ (G99 N x2) ≤ r2 → res = (some (.int (J (-1))), hs E (jm N))))))))) ∧ (¬ x3 = 1 → res = (some (.int (J (-102))), hs E (jm N)))))))))))))))) : Ev 5 198 0 [some (.ref 8), some (.int (J x1)), some (.int (J x2)), some (.int (J x3)), none, none] [] (hs E (jm N)) res := by
  refine w198_0 ?_
  obtain ⟨q1, H⟩ := H
  refine ⟨Eq.mpr (congr (congrArg P5 rfl) rfl) (p5 q1), ?_⟩
  obtain ⟨q2, H⟩ := H
  refine ⟨fun hc => ?_, fun hc => ?_⟩
  · replace H := H.1 ((eq_J ((congr (congrArg F5 rfl) rfl).trans (t5 q1)) jl_0 q2 (by decide)).mp hc)
    exact H.trans (rt_i jl_m101 rfl)
  · replace H := H.2 (fun hz => hc ((eq_J ((congr (congrArg F5 rfl) rfl).trans (t5 q1)) jl_0 q2 (by decide)).mpr hz))
    obtain ⟨q3, H⟩ := H
    obtain ⟨q4, H⟩ := H
    refine ⟨fun hc => ?_, fun hc => ?_⟩
    · replace H := H.1 ((eq_J ((congr (congrArg F94 rfl) rfl).trans (t94 q3)) jl_0 q4 (by decide)).mp hc)
      exact H.trans (rt_i jl_m101 rfl)
    · replace H := H.2 (fun hz => hc ((eq_J ((congr (congrArg F94 rfl) rfl).trans (t94 q3)) jl_0 q4 (by decide)).mpr hz))
      obtain ⟨q5, H⟩ := H
      refine ⟨fun hc => ?_, fun hc => ?_⟩
      · replace H := H.1 ((eq_J rfl jl_0 q5 (by decide)).mp hc)
        obtain ⟨q6, H⟩ := H
        refine ⟨Eq.mpr (congr (congrArg P99 rfl) rfl) (p99 q6), ?_⟩
        obtain ⟨r1, q9, H⟩ := H
        refine ⟨J r1, Rn_to (clx (cai rfl rfl)) rfl rfl q9, ?_⟩
        obtain ⟨q7, q8, H⟩ := H
        refine ⟨fun hc => ?_, fun hc => ?_⟩
        · replace H := H.1 ((le_J ((congr (congrArg F99 rfl) rfl).trans (t99 q6)) rfl q7 q8).mp hc)
          refine ⟨fun hc => ?_, fun hc => ?_⟩
          · replace H := H.1 ((eq_J rfl jl_0 q5 (by decide)).mp hc)
            exact H.trans (rt_i ((congr (congrArg F99 rfl) rfl).trans (t99 q6)) rfl)
          · replace H := H.2 (fun hz => hc ((eq_J rfl jl_0 q5 (by decide)).mpr hz))
            exact H.trans (rt_i rfl rfl)
        · replace H := H.2 (fun hz => hc ((le_J ((congr (congrArg F99 rfl) rfl).trans (t99 q6)) rfl q7 q8).mpr hz))
          exact H.trans (rt_i jl_m1 rfl)
      · replace H := H.2 (fun hz => hc ((eq_J rfl jl_0 q5 (by decide)).mpr hz))
        refine ⟨fun hc => ?_, fun hc => ?_⟩
        · replace H := H.1 ((eq_J rfl jl_1 q5 (by decide)).mp hc)
          obtain ⟨q10, H⟩ := H
          refine ⟨Eq.mpr (congr (congrArg P99 rfl) rfl) (p99 q10), ?_⟩
          obtain ⟨r2, q13, H⟩ := H
          refine ⟨J r2, Rn_to (clx (cai rfl rfl)) rfl rfl q13, ?_⟩
          obtain ⟨q11, q12, H⟩ := H
          refine ⟨fun hc => ?_, fun hc => ?_⟩
          · replace H := H.1 ((le_J ((congr (congrArg F99 rfl) rfl).trans (t99 q10)) rfl q11 q12).mp hc)
            refine ⟨fun hc => ?_, fun hc => ?_⟩
            · replace H := H.1 ((eq_J rfl jl_0 q5 (by decide)).mp hc)
              exact H.trans (rt_i ((congr (congrArg F99 rfl) rfl).trans (t99 q10)) rfl)
            · replace H := H.2 (fun hz => hc ((eq_J rfl jl_0 q5 (by decide)).mpr hz))
              exact H.trans (rt_i rfl rfl)
          · replace H := H.2 (fun hz => hc ((le_J ((congr (congrArg F99 rfl) rfl).trans (t99 q10)) rfl q11 q12).mpr hz))
            exact H.trans (rt_i jl_m1 rfl)
        · replace H := H.2 (fun hz => hc ((eq_J rfl jl_1 q5 (by decide)).mpr hz))
          exact H.trans (rt_i jl_m102 rfl)
-- 240 GlassWiresModel isFree (II)Z
theorem v240_0 {E : gw_N} {N : NM} {res : Option Value × gw_H} {x1 : Int} {x2 : Int} (H : ((R x1) ∧ ((x1 ≤ 0 → res = (some (.int (J 0)), hs E (jm N))) ∧ (¬ x1 ≤ 0 → ((R ((N 59) 0)) ∧ ((((N 59) 0) ≤ x1 → res = (some (.int (J 0)), hs E (jm N))) ∧ (¬ ((N 59) 0) ≤ x1 → ((R x2) ∧ ((x2 ≤ 0 → res = (some (.int (J 0)), hs E (jm N))) ∧ (¬ x2 ≤ 0 → ((R ((N 59) 1)) ∧ ((((N 59) 1) ≤ x2 → res = (some (.int (J 0)), hs E (jm N))) ∧ (¬ ((N 59) 1) ≤ x2 → ((Q239 N x1 x2) ∧ ((R (G239 N x1 x2)) ∧ (((G239 N x1 x2) = 1 → res = (some (.int (J 1)), hs E (jm N))) ∧ (¬ (G239 N x1 x2) = 1 → res = (some (.int (J 0)), hs E (jm N))))))))))))))))))) : Ev 5 240 0 [some (.ref 59), some (.int (J x1)), some (.int (J x2))] [] (hs E (jm N)) res := by
  refine w240_0 ?_
  obtain ⟨q1, H⟩ := H
  refine ⟨fun hc => ?_, fun hc => ?_⟩
  · replace H := H.1 ((le_J rfl jl_0 q1 (by decide)).mp hc)
    exact H.trans (rt_i jl_0 rfl)
  · replace H := H.2 (fun hz => hc ((le_J rfl jl_0 q1 (by decide)).mpr hz))
    obtain ⟨q2, H⟩ := H
    refine ⟨fun hc => ?_, fun hc => ?_⟩
    · replace H := H.1 ((le_J (fld_J (jf_base _ _)) rfl q2 q1).mp hc)
      exact H.trans (rt_i jl_0 rfl)
    · replace H := H.2 (fun hz => hc ((le_J (fld_J (jf_base _ _)) rfl q2 q1).mpr hz))
      obtain ⟨q3, H⟩ := H
      refine ⟨fun hc => ?_, fun hc => ?_⟩
      · replace H := H.1 ((le_J rfl jl_0 q3 (by decide)).mp hc)
        exact H.trans (rt_i jl_0 rfl)
      · replace H := H.2 (fun hz => hc ((le_J rfl jl_0 q3 (by decide)).mpr hz))
        obtain ⟨q4, H⟩ := H
        refine ⟨fun hc => ?_, fun hc => ?_⟩
        · replace H := H.1 ((le_J (fld_J (jf_base _ _)) rfl q4 q3).mp hc)
          exact H.trans (rt_i jl_0 rfl)
        · replace H := H.2 (fun hz => hc ((le_J (fld_J (jf_base _ _)) rfl q4 q3).mpr hz))
          obtain ⟨q5, H⟩ := H
          refine ⟨Eq.mpr (congr (congr (congrArg P239 rfl) rfl) rfl) (p239 q5), ?_⟩
          obtain ⟨q6, H⟩ := H
          refine ⟨fun hc => ?_, fun hc => ?_⟩
          · replace H := H.1 ((eq_J ((congr (congr (congrArg F239 rfl) rfl) rfl).trans (t239 q5)) jl_1 q6 (by decide)).mp hc)
            exact H.trans (rt_i jl_1 rfl)
          · replace H := H.2 (fun hz => hc ((eq_J ((congr (congr (congrArg F239 rfl) rfl) rfl).trans (t239 q5)) jl_1 q6 (by decide)).mpr hz))
            exact H.trans (rt_i jl_0 rfl)
def G240 (N : NM) (x1 : Int) (x2 : Int) : Int := (if x1 ≤ 0 then 0 else (if ((N 59) 0) ≤ x1 then 0 else (if x2 ≤ 0 then 0 else (if ((N 59) 1) ≤ x2 then 0 else (if (G239 N x1 x2) = 1 then 1 else 0)))))
def Q240 (N : NM) (x1 : Int) (x2 : Int) : Prop := ((R x1) ∧ ((x1 ≤ 0 → True) ∧ (¬ x1 ≤ 0 → ((R ((N 59) 0)) ∧ ((((N 59) 0) ≤ x1 → True) ∧ (¬ ((N 59) 0) ≤ x1 → ((R x2) ∧ ((x2 ≤ 0 → True) ∧ (¬ x2 ≤ 0 → ((R ((N 59) 1)) ∧ ((((N 59) 1) ≤ x2 → True) ∧ (¬ ((N 59) 1) ≤ x2 → ((Q239 N x1 x2) ∧ ((R (G239 N x1 x2)) ∧ (((G239 N x1 x2) = 1 → True) ∧ (¬ (G239 N x1 x2) = 1 → True))))))))))))))))
theorem t240 {N : NM} {x1 : Int} {x2 : Int} (H : Q240 N x1 x2) : F240 (jm N) (J x1) (J x2) = J (G240 N x1 x2) := by
  unfold Q240 at H
  unfold F240 G240
  obtain ⟨q1, H⟩ := H
  refine ite_J (le_J rfl jl_0 q1 (by decide)) (fun hc => ?_) (fun hc => ?_)
  · replace H := H.1 ((le_J rfl jl_0 q1 (by decide)).mp hc)
    exact jl_0
  · replace H := H.2 (fun hz => hc ((le_J rfl jl_0 q1 (by decide)).mpr hz))
    obtain ⟨q2, H⟩ := H
    refine ite_J (le_J (fld_J (jf_base _ _)) rfl q2 q1) (fun hc => ?_) (fun hc => ?_)
    · replace H := H.1 ((le_J (fld_J (jf_base _ _)) rfl q2 q1).mp hc)
      exact jl_0
    · replace H := H.2 (fun hz => hc ((le_J (fld_J (jf_base _ _)) rfl q2 q1).mpr hz))
      obtain ⟨q3, H⟩ := H
      refine ite_J (le_J rfl jl_0 q3 (by decide)) (fun hc => ?_) (fun hc => ?_)
      · replace H := H.1 ((le_J rfl jl_0 q3 (by decide)).mp hc)
        exact jl_0
      · replace H := H.2 (fun hz => hc ((le_J rfl jl_0 q3 (by decide)).mpr hz))
        obtain ⟨q4, H⟩ := H
        refine ite_J (le_J (fld_J (jf_base _ _)) rfl q4 q3) (fun hc => ?_) (fun hc => ?_)
        · replace H := H.1 ((le_J (fld_J (jf_base _ _)) rfl q4 q3).mp hc)
          exact jl_0
        · replace H := H.2 (fun hz => hc ((le_J (fld_J (jf_base _ _)) rfl q4 q3).mpr hz))
          obtain ⟨q5, H⟩ := H
          obtain ⟨q6, H⟩ := H
          refine ite_J (eq_J ((congr (congr (congrArg F239 rfl) rfl) rfl).trans (t239 q5)) jl_1 q6 (by decide)) (fun hc => ?_) (fun hc => ?_)
          · replace H := H.1 ((eq_J ((congr (congr (congrArg F239 rfl) rfl) rfl).trans (t239 q5)) jl_1 q6 (by decide)).mp hc)
            exact jl_1
          · replace H := H.2 (fun hz => hc ((eq_J ((congr (congr (congrArg F239 rfl) rfl) rfl).trans (t239 q5)) jl_1 q6 (by decide)).mpr hz))
            exact jl_0
theorem p240 {N : NM} {x1 : Int} {x2 : Int} (H : Q240 N x1 x2) : P240 (jm N) (J x1) (J x2) := by
  unfold Q240 at H
  unfold P240
  obtain ⟨q1, H⟩ := H
  refine ⟨fun hc => ?_, fun hc => ?_⟩
  · replace H := H.1 ((le_J rfl jl_0 q1 (by decide)).mp hc)
    trivial
  · replace H := H.2 (fun hz => hc ((le_J rfl jl_0 q1 (by decide)).mpr hz))
    obtain ⟨q2, H⟩ := H
    refine ⟨fun hc => ?_, fun hc => ?_⟩
    · replace H := H.1 ((le_J (fld_J (jf_base _ _)) rfl q2 q1).mp hc)
      trivial
    · replace H := H.2 (fun hz => hc ((le_J (fld_J (jf_base _ _)) rfl q2 q1).mpr hz))
      obtain ⟨q3, H⟩ := H
      refine ⟨fun hc => ?_, fun hc => ?_⟩
      · replace H := H.1 ((le_J rfl jl_0 q3 (by decide)).mp hc)
        trivial
      · replace H := H.2 (fun hz => hc ((le_J rfl jl_0 q3 (by decide)).mpr hz))
        obtain ⟨q4, H⟩ := H
        refine ⟨fun hc => ?_, fun hc => ?_⟩
        · replace H := H.1 ((le_J (fld_J (jf_base _ _)) rfl q4 q3).mp hc)
          trivial
        · replace H := H.2 (fun hz => hc ((le_J (fld_J (jf_base _ _)) rfl q4 q3).mpr hz))
          obtain ⟨q5, H⟩ := H
          exact Eq.mpr (congr (congr (congrArg P239 rfl) rfl) rfl) (p239 q5)
theorem sz240 {E : gw_N} {N : NM} {x1 : Int} {x2 : Int} (H : Q240 N x1 x2) : Rn 240 [.ref 59, .int (J x1), .int (J x2)] (hs E (jm N)) (some (.int (J (G240 N x1 x2)))) (hs E (jm N)) := by
  have h := s240 (E := E) (M := jm N) (x1 := J x1) (x2 := J x2) (p240 H)
  rw [t240 H] at h
  exact h
-- 242 GlassWiresModel pieces ()I
theorem v242_0 {E : gw_N} {N : NM} {res : Option Value × gw_H}  (H : Ev 5 242 2 [some (.ref 59), some (.int (J 0)), none, none, none, none, none] [] (hs E (jm N)) res) : Ev 5 242 0 [some (.ref 59), none, none, none, none, none, none] [] (hs E (jm N)) res := by
  refine w242_0 ?_
  exact Ev_to (clx (cli jl_0 (clx (clx (clx (clx (clx rfl))))))) rfl rfl H
theorem v242_2 {E : gw_N} {N : NM} {res : Option Value × gw_H} {x1 : Int} (H : ((R x1) ∧ (((81 : Int) ≤ x1 → Ev 5 242 23 [some (.ref 59), some (.int (J 1)), none, none, none, none, none] [] (hs E (jm N)) res) ∧ (¬ (81 : Int) ≤ x1 → ((0 ≤ x1 ∧ x1 < 81) ∧ Ev 5 242 2 [some (.ref 59), some (.int (J (x1 + 1))), none, none, none, none, none] [] (hs E (jm (upZ N 68 (updZ (N 68) x1 x1)))) res))))) : Ev 5 242 2 [some (.ref 59), some (.int (J x1)), none, none, none, none, none] [] (hs E (jm N)) res := by
  refine w242_2 ?_
  obtain ⟨q1, H⟩ := H
  refine ⟨fun hc => ?_, fun hc => ?_⟩
  · replace H := H.1 ((le_J jl_81 rfl (by decide) q1).mp hc)
    exact Ev_to (clx (cli jl_1 (clx (clx (clx (clx (clx rfl))))))) rfl rfl H
  · replace H := H.2 (fun hz => hc ((le_J jl_81 rfl (by decide) q1).mpr hz))
    obtain ⟨q2, H⟩ := H
    refine ⟨inb_J rfl q2 (by decide), ?_⟩
    exact Ev_to (clx (cli (add_J rfl jl_1) (clx (clx (clx (clx (clx rfl))))))) rfl (jm_up rfl (jf_upd (jf_base _ _) rfl q2 (by decide) rfl)) H
theorem v242_23 {E : gw_N} {N : NM} {res : Option Value × gw_H} {x1 : Int} (H : ((R x1) ∧ ((x1 = 0 → Ev 5 242 152 [some (.ref 59), none, some (.int (J 0)), some (.int (J 0)), none, none, none] [] (hs E (jm N)) res) ∧ (¬ x1 = 0 → Ev 5 242 31 [some (.ref 59), some (.int (J 0)), some (.int (J 0)), none, none, none, none] [] (hs E (jm N)) res)))) : Ev 5 242 23 [some (.ref 59), some (.int (J x1)), none, none, none, none, none] [] (hs E (jm N)) res := by
  refine w242_23 ?_
  obtain ⟨q1, H⟩ := H
  refine ⟨fun hc => ?_, fun hc => ?_⟩
  · replace H := H.1 ((eq_J rfl jl_0 q1 (by decide)).mp hc)
    exact Ev_to (clx (clx (cli jl_0 (cli jl_0 (clx (clx (clx rfl))))))) rfl rfl H
  · replace H := H.2 (fun hz => hc ((eq_J rfl jl_0 q1 (by decide)).mpr hz))
    exact Ev_to (clx (cli jl_0 (cli jl_0 (clx (clx (clx (clx rfl))))))) rfl rfl H
theorem v242_152 {E : gw_N} {N : NM} {res : Option Value × gw_H} {x2 : Int} {x3 : Int} (H : ((R x3) ∧ (((81 : Int) ≤ x3 → res = (some (.int (J x2)), hs E (jm N))) ∧ (¬ (81 : Int) ≤ x3 → Ev 5 242 167 [some (.ref 59), none, some (.int (J x2)), some (.int (J x3)), some (.int (J 0)), some (.int (J 0)), some (.int (J 0))] [] (hs E (jm N)) res)))) : Ev 5 242 152 [some (.ref 59), none, some (.int (J x2)), some (.int (J x3)), none, none, none] [] (hs E (jm N)) res := by
  refine w242_152 ?_
  obtain ⟨q1, H⟩ := H
  refine ⟨fun hc => ?_, fun hc => ?_⟩
  · replace H := H.1 ((le_J jl_81 rfl (by decide) q1).mp hc)
    exact H.trans (rt_i rfl rfl)
  · replace H := H.2 (fun hz => hc ((le_J jl_81 rfl (by decide) q1).mpr hz))
    exact Ev_to (clx (clx (cli rfl (cli rfl (cli jl_0 (cli jl_0 (cli jl_0 rfl))))))) rfl rfl H
theorem v242_31 {E : gw_N} {N : NM} {res : Option Value × gw_H} {x1 : Int} {x2 : Int} (H : ((R x2) ∧ (((162 : Int) ≤ x2 → Ev 5 242 23 [some (.ref 59), some (.int (J x1)), none, none, none, none, none] [] (hs E (jm N)) res) ∧ (¬ (162 : Int) ≤ x2 → (((81 : Int) ≤ x2 → ((0 ≤ x2 ∧ x2 < 162) ∧ ((R ((N 67) x2)) ∧ ((((N 67) x2) ≤ 0 → Ev 5 242 31 [some (.ref 59), some (.int (J x1)), some (.int (J (x2 + 1))), none, none, none, none] [] (hs E (jm N)) res) ∧ (¬ ((N 67) x2) ≤ 0 → ((0 ≤ (Int.tmod x2 81) ∧ (Int.tmod x2 81) < 81) ∧ ((0 ≤ ((Int.tmod x2 81) + 9) ∧ ((Int.tmod x2 81) + 9) < 81) ∧ ((R ((N 68) (Int.tmod x2 81))) ∧ ((R ((N 68) ((Int.tmod x2 81) + 9))) ∧ ((((N 68) (Int.tmod x2 81)) = ((N 68) ((Int.tmod x2 81) + 9)) → Ev 5 242 31 [some (.ref 59), some (.int (J x1)), some (.int (J (x2 + 1))), none, none, none, none] [] (hs E (jm N)) res) ∧ (¬ ((N 68) (Int.tmod x2 81)) = ((N 68) ((Int.tmod x2 81) + 9)) → ((((N 68) ((Int.tmod x2 81) + 9)) ≤ ((N 68) (Int.tmod x2 81)) → Ev 5 242 31 [some (.ref 59), some (.int (J 1)), some (.int (J (x2 + 1))), none, none, none, none] [] (hs E (jm (upZ N 68 (updZ (updZ (N 68) (Int.tmod x2 81) ((N 68) ((Int.tmod x2 81) + 9))) ((Int.tmod x2 81) + 9) ((N 68) ((Int.tmod x2 81) + 9)))))) res) ∧ (¬ ((N 68) ((Int.tmod x2 81) + 9)) ≤ ((N 68) (Int.tmod x2 81)) → Ev 5 242 31 [some (.ref 59), some (.int (J 1)), some (.int (J (x2 + 1))), none, none, none, none] [] (hs E (jm (upZ N 68 (updZ (updZ (N 68) (Int.tmod x2 81) ((N 68) (Int.tmod x2 81))) ((Int.tmod x2 81) + 9) ((N 68) (Int.tmod x2 81)))))) res))))))))))))) ∧ (¬ (81 : Int) ≤ x2 → ((0 ≤ x2 ∧ x2 < 162) ∧ ((R ((N 67) x2)) ∧ ((((N 67) x2) ≤ 0 → Ev 5 242 31 [some (.ref 59), some (.int (J x1)), some (.int (J (x2 + 1))), none, none, none, none] [] (hs E (jm N)) res) ∧ (¬ ((N 67) x2) ≤ 0 → ((0 ≤ (Int.tmod x2 81) ∧ (Int.tmod x2 81) < 81) ∧ ((0 ≤ ((Int.tmod x2 81) + 1) ∧ ((Int.tmod x2 81) + 1) < 81) ∧ ((R ((N 68) (Int.tmod x2 81))) ∧ ((R ((N 68) ((Int.tmod x2 81) + 1))) ∧ ((((N 68) (Int.tmod x2 81)) = ((N 68) ((Int.tmod x2 81) + 1)) → Ev 5 242 31 [some (.ref 59), some (.int (J x1)), some (.int (J (x2 + 1))), none, none, none, none] [] (hs E (jm N)) res) ∧ (¬ ((N 68) (Int.tmod x2 81)) = ((N 68) ((Int.tmod x2 81) + 1)) → ((((N 68) ((Int.tmod x2 81) + 1)) ≤ ((N 68) (Int.tmod x2 81)) → Ev 5 242 31 [some (.ref 59), some (.int (J 1)), some (.int (J (x2 + 1))), none, none, none, none] [] (hs E (jm (upZ N 68 (updZ (updZ (N 68) (Int.tmod x2 81) ((N 68) ((Int.tmod x2 81) + 1))) ((Int.tmod x2 81) + 1) ((N 68) ((Int.tmod x2 81) + 1)))))) res) ∧ (¬ ((N 68) ((Int.tmod x2 81) + 1)) ≤ ((N 68) (Int.tmod x2 81)) → Ev 5 242 31 [some (.ref 59), some (.int (J 1)), some (.int (J (x2 + 1))), none, none, none, none] [] (hs E (jm (upZ N 68 (updZ (updZ (N 68) (Int.tmod x2 81) ((N 68) (Int.tmod x2 81))) ((Int.tmod x2 81) + 1) ((N 68) (Int.tmod x2 81)))))) res)))))))))))))))))) : Ev 5 242 31 [some (.ref 59), some (.int (J x1)), some (.int (J x2)), none, none, none, none] [] (hs E (jm N)) res := by
  refine w242_31 ?_
  obtain ⟨q1, H⟩ := H
  refine ⟨fun hc => ?_, fun hc => ?_⟩
  · replace H := H.1 ((le_J jl_162 rfl (by decide) q1).mp hc)
    exact Ev_to (clx (cli rfl (clx (clx (clx (clx (clx rfl))))))) rfl rfl H
  · replace H := H.2 (fun hz => hc ((le_J jl_162 rfl (by decide) q1).mpr hz))
    refine ⟨fun hc => ?_, fun hc => ?_⟩
    · replace H := H.1 ((le_J jl_81 rfl (by decide) q1).mp hc)
      obtain ⟨q2, H⟩ := H
      refine ⟨inb_J rfl q2 (by decide), ?_⟩
      obtain ⟨q3, H⟩ := H
      refine ⟨fun hc => ?_, fun hc => ?_⟩
      · replace H := H.1 ((le_J (rd_J (jf_base _ _) rfl q2 (by decide)) jl_0 q3 (by decide)).mp hc)
        exact Ev_to (clx (cli rfl (cli (add_J rfl jl_1) (clx (clx (clx (clx rfl))))))) rfl rfl H
      · replace H := H.2 (fun hz => hc ((le_J (rd_J (jf_base _ _) rfl q2 (by decide)) jl_0 q3 (by decide)).mpr hz))
        obtain ⟨q4, H⟩ := H
        refine ⟨inb_J (rem_J rfl jl_81 q1 (by decide) (by decide)) q4 (by decide), ?_⟩
        obtain ⟨q5, H⟩ := H
        refine ⟨inb_J (add_J (rem_J rfl jl_81 q1 (by decide) (by decide)) jl_9) q5 (by decide), ?_⟩
        obtain ⟨q6, q7, H⟩ := H
        refine ⟨fun hc => ?_, fun hc => ?_⟩
        · replace H := H.1 ((eq_J (rd_J (jf_base _ _) (rem_J rfl jl_81 q1 (by decide) (by decide)) q4 (by decide)) (rd_J (jf_base _ _) (add_J (rem_J rfl jl_81 q1 (by decide) (by decide)) jl_9) q5 (by decide)) q6 q7).mp hc)
          exact Ev_to (clx (cli rfl (cli (add_J rfl jl_1) (clx (clx (clx (clx rfl))))))) rfl rfl H
        · replace H := H.2 (fun hz => hc ((eq_J (rd_J (jf_base _ _) (rem_J rfl jl_81 q1 (by decide) (by decide)) q4 (by decide)) (rd_J (jf_base _ _) (add_J (rem_J rfl jl_81 q1 (by decide) (by decide)) jl_9) q5 (by decide)) q6 q7).mpr hz))
          refine ⟨inb_J (rem_J rfl jl_81 q1 (by decide) (by decide)) q4 (by decide), ?_⟩
          refine ⟨inb_J (add_J (rem_J rfl jl_81 q1 (by decide) (by decide)) jl_9) q5 (by decide), ?_⟩
          refine ⟨fun hc => ?_, fun hc => ?_⟩
          · replace H := H.1 ((le_J (rd_J (jf_base _ _) (add_J (rem_J rfl jl_81 q1 (by decide) (by decide)) jl_9) q5 (by decide)) (rd_J (jf_base _ _) (rem_J rfl jl_81 q1 (by decide) (by decide)) q4 (by decide)) q7 q6).mp hc)
            refine ⟨inb_J (add_J (rem_J rfl jl_81 q1 (by decide) (by decide)) jl_9) q5 (by decide), ?_⟩
            refine ⟨inb_J (rem_J rfl jl_81 q1 (by decide) (by decide)) q4 (by decide), ?_⟩
            refine ⟨inb_J (add_J (rem_J rfl jl_81 q1 (by decide) (by decide)) jl_9) q5 (by decide), ?_⟩
            exact Ev_to (clx (cli jl_1 (cli (add_J rfl jl_1) (clx (clx (clx (clx rfl))))))) rfl (jm_up rfl (jf_upd (jf_upd (jf_base _ _) (rem_J rfl jl_81 q1 (by decide) (by decide)) q4 (by decide) (rd_J (jf_base _ _) (add_J (rem_J rfl jl_81 q1 (by decide) (by decide)) jl_9) q5 (by decide))) (add_J (rem_J rfl jl_81 q1 (by decide) (by decide)) jl_9) q5 (by decide) (rd_J (jf_base _ _) (add_J (rem_J rfl jl_81 q1 (by decide) (by decide)) jl_9) q5 (by decide)))) H
          · replace H := H.2 (fun hz => hc ((le_J (rd_J (jf_base _ _) (add_J (rem_J rfl jl_81 q1 (by decide) (by decide)) jl_9) q5 (by decide)) (rd_J (jf_base _ _) (rem_J rfl jl_81 q1 (by decide) (by decide)) q4 (by decide)) q7 q6).mpr hz))
            refine ⟨inb_J (rem_J rfl jl_81 q1 (by decide) (by decide)) q4 (by decide), ?_⟩
            refine ⟨inb_J (rem_J rfl jl_81 q1 (by decide) (by decide)) q4 (by decide), ?_⟩
            refine ⟨inb_J (add_J (rem_J rfl jl_81 q1 (by decide) (by decide)) jl_9) q5 (by decide), ?_⟩
            exact Ev_to (clx (cli jl_1 (cli (add_J rfl jl_1) (clx (clx (clx (clx rfl))))))) rfl (jm_up rfl (jf_upd (jf_upd (jf_base _ _) (rem_J rfl jl_81 q1 (by decide) (by decide)) q4 (by decide) (rd_J (jf_base _ _) (rem_J rfl jl_81 q1 (by decide) (by decide)) q4 (by decide))) (add_J (rem_J rfl jl_81 q1 (by decide) (by decide)) jl_9) q5 (by decide) (rd_J (jf_base _ _) (rem_J rfl jl_81 q1 (by decide) (by decide)) q4 (by decide)))) H
    · replace H := H.2 (fun hz => hc ((le_J jl_81 rfl (by decide) q1).mpr hz))
      obtain ⟨q8, H⟩ := H
      refine ⟨inb_J rfl q8 (by decide), ?_⟩
      obtain ⟨q9, H⟩ := H
      refine ⟨fun hc => ?_, fun hc => ?_⟩
      · replace H := H.1 ((le_J (rd_J (jf_base _ _) rfl q8 (by decide)) jl_0 q9 (by decide)).mp hc)
        exact Ev_to (clx (cli rfl (cli (add_J rfl jl_1) (clx (clx (clx (clx rfl))))))) rfl rfl H
      · replace H := H.2 (fun hz => hc ((le_J (rd_J (jf_base _ _) rfl q8 (by decide)) jl_0 q9 (by decide)).mpr hz))
        obtain ⟨q10, H⟩ := H
        refine ⟨inb_J (rem_J rfl jl_81 q1 (by decide) (by decide)) q10 (by decide), ?_⟩
        obtain ⟨q11, H⟩ := H
        refine ⟨inb_J (add_J (rem_J rfl jl_81 q1 (by decide) (by decide)) jl_1) q11 (by decide), ?_⟩
        obtain ⟨q12, q13, H⟩ := H
        refine ⟨fun hc => ?_, fun hc => ?_⟩
        · replace H := H.1 ((eq_J (rd_J (jf_base _ _) (rem_J rfl jl_81 q1 (by decide) (by decide)) q10 (by decide)) (rd_J (jf_base _ _) (add_J (rem_J rfl jl_81 q1 (by decide) (by decide)) jl_1) q11 (by decide)) q12 q13).mp hc)
          exact Ev_to (clx (cli rfl (cli (add_J rfl jl_1) (clx (clx (clx (clx rfl))))))) rfl rfl H
        · replace H := H.2 (fun hz => hc ((eq_J (rd_J (jf_base _ _) (rem_J rfl jl_81 q1 (by decide) (by decide)) q10 (by decide)) (rd_J (jf_base _ _) (add_J (rem_J rfl jl_81 q1 (by decide) (by decide)) jl_1) q11 (by decide)) q12 q13).mpr hz))
          refine ⟨inb_J (rem_J rfl jl_81 q1 (by decide) (by decide)) q10 (by decide), ?_⟩
          refine ⟨inb_J (add_J (rem_J rfl jl_81 q1 (by decide) (by decide)) jl_1) q11 (by decide), ?_⟩
          refine ⟨fun hc => ?_, fun hc => ?_⟩
          · replace H := H.1 ((le_J (rd_J (jf_base _ _) (add_J (rem_J rfl jl_81 q1 (by decide) (by decide)) jl_1) q11 (by decide)) (rd_J (jf_base _ _) (rem_J rfl jl_81 q1 (by decide) (by decide)) q10 (by decide)) q13 q12).mp hc)
            refine ⟨inb_J (add_J (rem_J rfl jl_81 q1 (by decide) (by decide)) jl_1) q11 (by decide), ?_⟩
            refine ⟨inb_J (rem_J rfl jl_81 q1 (by decide) (by decide)) q10 (by decide), ?_⟩
            refine ⟨inb_J (add_J (rem_J rfl jl_81 q1 (by decide) (by decide)) jl_1) q11 (by decide), ?_⟩
            exact Ev_to (clx (cli jl_1 (cli (add_J rfl jl_1) (clx (clx (clx (clx rfl))))))) rfl (jm_up rfl (jf_upd (jf_upd (jf_base _ _) (rem_J rfl jl_81 q1 (by decide) (by decide)) q10 (by decide) (rd_J (jf_base _ _) (add_J (rem_J rfl jl_81 q1 (by decide) (by decide)) jl_1) q11 (by decide))) (add_J (rem_J rfl jl_81 q1 (by decide) (by decide)) jl_1) q11 (by decide) (rd_J (jf_base _ _) (add_J (rem_J rfl jl_81 q1 (by decide) (by decide)) jl_1) q11 (by decide)))) H
          · replace H := H.2 (fun hz => hc ((le_J (rd_J (jf_base _ _) (add_J (rem_J rfl jl_81 q1 (by decide) (by decide)) jl_1) q11 (by decide)) (rd_J (jf_base _ _) (rem_J rfl jl_81 q1 (by decide) (by decide)) q10 (by decide)) q13 q12).mpr hz))
            refine ⟨inb_J (rem_J rfl jl_81 q1 (by decide) (by decide)) q10 (by decide), ?_⟩
            refine ⟨inb_J (rem_J rfl jl_81 q1 (by decide) (by decide)) q10 (by decide), ?_⟩
            refine ⟨inb_J (add_J (rem_J rfl jl_81 q1 (by decide) (by decide)) jl_1) q11 (by decide), ?_⟩
            exact Ev_to (clx (cli jl_1 (cli (add_J rfl jl_1) (clx (clx (clx (clx rfl))))))) rfl (jm_up rfl (jf_upd (jf_upd (jf_base _ _) (rem_J rfl jl_81 q1 (by decide) (by decide)) q10 (by decide) (rd_J (jf_base _ _) (rem_J rfl jl_81 q1 (by decide) (by decide)) q10 (by decide))) (add_J (rem_J rfl jl_81 q1 (by decide) (by decide)) jl_1) q11 (by decide) (rd_J (jf_base _ _) (rem_J rfl jl_81 q1 (by decide) (by decide)) q10 (by decide)))) H
theorem v242_167 {E : gw_N} {N : NM} {res : Option Value × gw_H} {x2 : Int} {x3 : Int} {x4 : Int} {x5 : Int} {x6 : Int} (H : ((R x6) ∧ (((81 : Int) ≤ x6 → ((R x5) ∧ ((x5 = 0 → Ev 5 242 152 [some (.ref 59), none, some (.int (J (x2 + 0))), some (.int (J (x3 + 1))), none, none, none] [] (hs E (jm N)) res) ∧ (¬ x5 = 0 → ((R x4) ∧ ((x4 = 0 → Ev 5 242 152 [some (.ref 59), none, some (.int (J (x2 + 1))), some (.int (J (x3 + 1))), none, none, none] [] (hs E (jm N)) res) ∧ (¬ x4 = 0 → Ev 5 242 152 [some (.ref 59), none, some (.int (J (x2 + (Int.tdiv x4 2)))), some (.int (J (x3 + 1))), none, none, none] [] (hs E (jm N)) res))))))) ∧ (¬ (81 : Int) ≤ x6 → ((0 ≤ x6 ∧ x6 < 81) ∧ ((R ((N 68) x6)) ∧ ((R x3) ∧ ((((N 68) x6) = x3 → ((Q214 N (Int.tmod x6 9) (Int.tdiv x6 9)) ∧ ((R (G214 N (Int.tmod x6 9) (Int.tdiv x6 9))) ∧ (((G214 N (Int.tmod x6 9) (Int.tdiv x6 9)) = 0 → Ev 5 242 167 [some (.ref 59), none, some (.int (J x2)), some (.int (J x3)), some (.int (J x4)), some (.int (J x5)), some (.int (J (x6 + 1)))] [] (hs E (jm N)) res) ∧ (¬ (G214 N (Int.tmod x6 9) (Int.tdiv x6 9)) = 0 → ((Q239 N (Int.tmod x6 9) (Int.tdiv x6 9)) ∧ ((R (G239 N (Int.tmod x6 9) (Int.tdiv x6 9))) ∧ (((G239 N (Int.tmod x6 9) (Int.tdiv x6 9)) ≤ 0 → Ev 5 242 167 [some (.ref 59), none, some (.int (J x2)), some (.int (J x3)), some (.int (J (x4 + (Int.tmod (G239 N (Int.tmod x6 9) (Int.tdiv x6 9)) 2)))), some (.int (J (x5 + 0))), some (.int (J (x6 + 1)))] [] (hs E (jm N)) res) ∧ (¬ (G239 N (Int.tmod x6 9) (Int.tdiv x6 9)) ≤ 0 → Ev 5 242 167 [some (.ref 59), none, some (.int (J x2)), some (.int (J x3)), some (.int (J (x4 + (Int.tmod (G239 N (Int.tmod x6 9) (Int.tdiv x6 9)) 2)))), some (.int (J (x5 + 1))), some (.int (J (x6 + 1)))] [] (hs E (jm N)) res))))))))) ∧ (¬ ((N 68) x6) = x3 → Ev 5 242 167 [some (.ref 59), none, some (.int (J x2)), some (.int (J x3)), some (.int (J x4)), some (.int (J x5)), some (.int (J (x6 + 1)))] [] (hs E (jm N)) res))))))))) : Ev 5 242 167 [some (.ref 59), none, some (.int (J x2)), some (.int (J x3)), some (.int (J x4)), some (.int (J x5)), some (.int (J x6))] [] (hs E (jm N)) res := by
  refine w242_167 ?_
  obtain ⟨q1, H⟩ := H
  refine ⟨fun hc => ?_, fun hc => ?_⟩
  · replace H := H.1 ((le_J jl_81 rfl (by decide) q1).mp hc)
    obtain ⟨q2, H⟩ := H
    refine ⟨fun hc => ?_, fun hc => ?_⟩
    · replace H := H.1 ((eq_J rfl jl_0 q2 (by decide)).mp hc)
      exact Ev_to (clx (clx (cli (add_J rfl jl_0) (cli (add_J rfl jl_1) (clx (clx (clx rfl))))))) rfl rfl H
    · replace H := H.2 (fun hz => hc ((eq_J rfl jl_0 q2 (by decide)).mpr hz))
      obtain ⟨q3, H⟩ := H
      refine ⟨fun hc => ?_, fun hc => ?_⟩
      · replace H := H.1 ((eq_J rfl jl_0 q3 (by decide)).mp hc)
        exact Ev_to (clx (clx (cli (add_J rfl jl_1) (cli (add_J rfl jl_1) (clx (clx (clx rfl))))))) rfl rfl H
      · replace H := H.2 (fun hz => hc ((eq_J rfl jl_0 q3 (by decide)).mpr hz))
        exact Ev_to (clx (clx (cli (add_J rfl (div_J rfl jl_2 q3 (by decide) (by decide))) (cli (add_J rfl jl_1) (clx (clx (clx rfl))))))) rfl rfl H
  · replace H := H.2 (fun hz => hc ((le_J jl_81 rfl (by decide) q1).mpr hz))
    obtain ⟨q4, H⟩ := H
    refine ⟨inb_J rfl q4 (by decide), ?_⟩
    obtain ⟨q5, q6, H⟩ := H
    refine ⟨fun hc => ?_, fun hc => ?_⟩
    · replace H := H.1 ((eq_J (rd_J (jf_base _ _) rfl q4 (by decide)) rfl q5 q6).mp hc)
      obtain ⟨q7, H⟩ := H
      obtain ⟨q8, H⟩ := H
      refine ⟨fun hc => ?_, fun hc => ?_⟩
      · replace H := H.1 ((eq_J ((congr (congr (congrArg F214 rfl) (rem_J rfl jl_9 q1 (by decide) (by decide))) (div_J rfl jl_9 q1 (by decide) (by decide))).trans (t214 q7)) jl_0 q8 (by decide)).mp hc)
        exact Ev_to (clx (clx (cli rfl (cli rfl (cli rfl (cli rfl (cli (add_J rfl jl_1) rfl))))))) rfl rfl H
      · replace H := H.2 (fun hz => hc ((eq_J ((congr (congr (congrArg F214 rfl) (rem_J rfl jl_9 q1 (by decide) (by decide))) (div_J rfl jl_9 q1 (by decide) (by decide))).trans (t214 q7)) jl_0 q8 (by decide)).mpr hz))
        obtain ⟨q9, H⟩ := H
        refine ⟨Eq.mpr (congr (congr (congrArg P239 rfl) (rem_J rfl jl_9 q1 (by decide) (by decide))) (div_J rfl jl_9 q1 (by decide) (by decide))) (p239 q9), ?_⟩
        refine ⟨Eq.mpr (congr (congr (congrArg P239 rfl) (rem_J rfl jl_9 q1 (by decide) (by decide))) (div_J rfl jl_9 q1 (by decide) (by decide))) (p239 q9), ?_⟩
        obtain ⟨q10, H⟩ := H
        refine ⟨fun hc => ?_, fun hc => ?_⟩
        · replace H := H.1 ((le_J ((congr (congr (congrArg F239 rfl) (rem_J rfl jl_9 q1 (by decide) (by decide))) (div_J rfl jl_9 q1 (by decide) (by decide))).trans (t239 q9)) jl_0 q10 (by decide)).mp hc)
          exact Ev_to (clx (clx (cli rfl (cli rfl (cli (add_J rfl (rem_J ((congr (congr (congrArg F239 rfl) (rem_J rfl jl_9 q1 (by decide) (by decide))) (div_J rfl jl_9 q1 (by decide) (by decide))).trans (t239 q9)) jl_2 q10 (by decide) (by decide))) (cli (add_J rfl jl_0) (cli (add_J rfl jl_1) rfl))))))) rfl rfl H
        · replace H := H.2 (fun hz => hc ((le_J ((congr (congr (congrArg F239 rfl) (rem_J rfl jl_9 q1 (by decide) (by decide))) (div_J rfl jl_9 q1 (by decide) (by decide))).trans (t239 q9)) jl_0 q10 (by decide)).mpr hz))
          exact Ev_to (clx (clx (cli rfl (cli rfl (cli (add_J rfl (rem_J ((congr (congr (congrArg F239 rfl) (rem_J rfl jl_9 q1 (by decide) (by decide))) (div_J rfl jl_9 q1 (by decide) (by decide))).trans (t239 q9)) jl_2 q10 (by decide) (by decide))) (cli (add_J rfl jl_1) (cli (add_J rfl jl_1) rfl))))))) rfl rfl H
    · replace H := H.2 (fun hz => hc ((eq_J (rd_J (jf_base _ _) rfl q4 (by decide)) rfl q5 q6).mpr hz))
      exact Ev_to (clx (clx (cli rfl (cli rfl (cli rfl (cli rfl (cli (add_J rfl jl_1) rfl))))))) rfl rfl H
-- 253 GlassWiresModel size (I)I
theorem v253_0 {E : gw_N} {N : NM} {res : Option Value × gw_H} {x1 : Int} (H : (∃ (r1 : Int) (N1 : NM), Rn 248 [.ref 59, .int (J x1)] (hs E (jm N)) (some (.int (J r1))) (hs E (jm N1)) ∧ ((R r1) ∧ ((r1 = 0 → res = (some (.int (J (-101))), hs E (jm N1))) ∧ (¬ r1 = 0 → (∃ (r2 : Int), Rn 249 [.ref 59, .int (J x1)] (hs E (jm N1)) (some (.int (J r2))) (hs E (jm N1)) ∧ res = (some (.int (J r2)), hs E (jm N1)))))))) : Ev 5 253 0 [some (.ref 59), some (.int (J x1))] [] (hs E (jm N)) res := by
  refine w253_0 ?_
  obtain ⟨r1, N1, q3, H⟩ := H
  refine ⟨J r1, jm N1, Rn_to (clx (cai rfl rfl)) rfl rfl q3, ?_⟩
  obtain ⟨q1, H⟩ := H
  refine ⟨fun hc => ?_, fun hc => ?_⟩
  · replace H := H.1 ((eq_J rfl jl_0 q1 (by decide)).mp hc)
    exact H.trans (rt_i jl_m101 rfl)
  · replace H := H.2 (fun hz => hc ((eq_J rfl jl_0 q1 (by decide)).mpr hz))
    obtain ⟨r2, q2, H⟩ := H
    refine ⟨J r2, Rn_to (clx (cai rfl rfl)) rfl rfl q2, ?_⟩
    exact H.trans (rt_i rfl rfl)
-- 259 GlassWiresModel paints ()I
theorem v259_0 {E : gw_N} {N : NM} {res : Option Value × gw_H}  (H : (∃ (N1 : NM), Rn 255 [.ref 59] (hs E (jm N)) none (hs E (jm N1)) ∧ ((R ((N1 59) 15)) ∧ ((((N1 59) 15) ≤ 10 → (∃ (r2 : Int) (N2 : NM), Rn 258 [.ref 59] (hs E (jm N1)) (some (.int (J r2))) (hs E (jm N2)) ∧ res = (some (.int (J r2)), hs E (jm N2)))) ∧ (¬ ((N1 59) 15) ≤ 10 → res = (some (.int (J (-103))), hs E (jm N1))))))) : Ev 5 259 0 [some (.ref 59)] [] (hs E (jm N)) res := by
  refine w259_0 ?_
  obtain ⟨N1, q3, H⟩ := H
  refine ⟨jm N1, Rn_to (clx rfl) rfl rfl q3, ?_⟩
  obtain ⟨q1, H⟩ := H
  refine ⟨fun hc => ?_, fun hc => ?_⟩
  · replace H := H.1 ((le_J (fld_J (jf_base _ _)) jl_10 q1 (by decide)).mp hc)
    obtain ⟨r2, N2, q2, H⟩ := H
    refine ⟨J r2, jm N2, Rn_to (clx rfl) rfl rfl q2, ?_⟩
    exact H.trans (rt_i rfl rfl)
  · replace H := H.2 (fun hz => hc ((le_J (fld_J (jf_base _ _)) jl_10 q1 (by decide)).mpr hz))
    exact H.trans (rt_i jl_m103 rfl)
-- 260 GlassWiresModel paint (I)I
theorem v260_0 {E : gw_N} {N : NM} {res : Option Value × gw_H} {x1 : Int} (H : (∃ (r1 : Int) (N1 : NM), Rn 248 [.ref 59, .int (J x1)] (hs E (jm N)) (some (.int (J r1))) (hs E (jm N1)) ∧ ((R r1) ∧ ((r1 = 0 → res = (some (.int (J (-101))), hs E (jm N1))) ∧ (¬ r1 = 0 → (∃ (N2 : NM), Rn 255 [.ref 59] (hs E (jm N1)) none (hs E (jm N2)) ∧ ((R ((N2 59) 15)) ∧ ((((N2 59) 15) ≤ 10 → (∃ (r3 : Int) (N3 : NM), Rn 258 [.ref 59] (hs E (jm N2)) (some (.int (J r3))) (hs E (jm N3)) ∧ (∃ (r4 : Int), Rn 254 [.ref 59, .int (J x1)] (hs E (jm N3)) (some (.int (J r4))) (hs E (jm N3)) ∧ ((0 ≤ r4 ∧ r4 < 10) ∧ res = (some (.int (J ((N3 72) r4))), hs E (jm N3)))))) ∧ (¬ ((N2 59) 15) ≤ 10 → res = (some (.int (J (-103))), hs E (jm N2))))))))))) : Ev 5 260 0 [some (.ref 59), some (.int (J x1))] [] (hs E (jm N)) res := by
  refine w260_0 ?_
  obtain ⟨r1, N1, q7, H⟩ := H
  refine ⟨J r1, jm N1, Rn_to (clx (cai rfl rfl)) rfl rfl q7, ?_⟩
  obtain ⟨q1, H⟩ := H
  refine ⟨fun hc => ?_, fun hc => ?_⟩
  · replace H := H.1 ((eq_J rfl jl_0 q1 (by decide)).mp hc)
    exact H.trans (rt_i jl_m101 rfl)
  · replace H := H.2 (fun hz => hc ((eq_J rfl jl_0 q1 (by decide)).mpr hz))
    obtain ⟨N2, q6, H⟩ := H
    refine ⟨jm N2, Rn_to (clx rfl) rfl rfl q6, ?_⟩
    obtain ⟨q2, H⟩ := H
    refine ⟨fun hc => ?_, fun hc => ?_⟩
    · replace H := H.1 ((le_J (fld_J (jf_base _ _)) jl_10 q2 (by decide)).mp hc)
      obtain ⟨r3, N3, q5, H⟩ := H
      refine ⟨J r3, jm N3, Rn_to (clx rfl) rfl rfl q5, ?_⟩
      obtain ⟨r4, q4, H⟩ := H
      refine ⟨J r4, Rn_to (clx (cai rfl rfl)) rfl rfl q4, ?_⟩
      obtain ⟨q3, H⟩ := H
      refine ⟨inb_J rfl q3 (by decide), ?_⟩
      exact H.trans (rt_i (rd_J (jf_base _ _) rfl q3 (by decide)) rfl)
    · replace H := H.2 (fun hz => hc ((le_J (fld_J (jf_base _ _)) jl_10 q2 (by decide)).mpr hz))
      exact H.trans (rt_i jl_m103 rfl)
-- 265 GlassWiresModel fill (III)I
theorem v265_0 {E : gw_N} {N : NM} {res : Option Value × gw_H} {x1 : Int} {x2 : Int} {x3 : Int} (H : (∃ (r1 : Int) (N1 : NM), Rn 248 [.ref 59, .int (J x1)] (hs E (jm N)) (some (.int (J r1))) (hs E (jm N1)) ∧ ((R r1) ∧ ((r1 = 0 → res = (some (.int (J (-101))), hs E (jm N1))) ∧ (¬ r1 = 0 → ((Q261 N1 x2) ∧ ((R (G261 N1 x2)) ∧ (((G261 N1 x2) = 0 → res = (some (.int (J (-101))), hs E (jm N1))) ∧ (¬ (G261 N1 x2) = 0 → ((R x3) ∧ (((if 1 ≤ x3 ∧ x3 ≤ 99 then (1 : Int) else 0) = 0 → res = (some (.int (J (-102))), hs E (jm N1))) ∧ (¬ (if 1 ≤ x3 ∧ x3 ≤ 99 then (1 : Int) else 0) = 0 → Ev 5 265 36 [some (.ref 59), some (.int (J x1)), some (.int (J x2)), some (.int (J x3)), some (.int (J 0)), none] [] (hs E (jm N1)) res)))))))))))) : Ev 5 265 0 [some (.ref 59), some (.int (J x1)), some (.int (J x2)), some (.int (J x3)), none, none] [] (hs E (jm N)) res := by
  refine w265_0 ?_
  obtain ⟨r1, N1, q5, H⟩ := H
  refine ⟨J r1, jm N1, Rn_to (clx (cai rfl rfl)) rfl rfl q5, ?_⟩
  obtain ⟨q1, H⟩ := H
  refine ⟨fun hc => ?_, fun hc => ?_⟩
  · replace H := H.1 ((eq_J rfl jl_0 q1 (by decide)).mp hc)
    exact H.trans (rt_i jl_m101 rfl)
  · replace H := H.2 (fun hz => hc ((eq_J rfl jl_0 q1 (by decide)).mpr hz))
    obtain ⟨q2, H⟩ := H
    obtain ⟨q3, H⟩ := H
    refine ⟨fun hc => ?_, fun hc => ?_⟩
    · replace H := H.1 ((eq_J ((congr (congrArg F261 rfl) rfl).trans (t261 q2)) jl_0 q3 (by decide)).mp hc)
      exact H.trans (rt_i jl_m101 rfl)
    · replace H := H.2 (fun hz => hc ((eq_J ((congr (congrArg F261 rfl) rfl).trans (t261 q2)) jl_0 q3 (by decide)).mpr hz))
      obtain ⟨q4, H⟩ := H
      refine ⟨fun hc => ?_, fun hc => ?_⟩
      · replace H := H.1 ((eq_J (in_J (congrArg Int32.toInt64 rfl) ll_1 ll_99 q4 (by decide) (by decide)) jl_0 R_in (by decide)).mp hc)
        exact H.trans (rt_i jl_m102 rfl)
      · replace H := H.2 (fun hz => hc ((eq_J (in_J (congrArg Int32.toInt64 rfl) ll_1 ll_99 q4 (by decide) (by decide)) jl_0 R_in (by decide)).mpr hz))
        exact Ev_to (clx (cli rfl (cli rfl (cli rfl (cli jl_0 (clx rfl)))))) rfl rfl H
theorem v265_36 {E : gw_N} {N : NM} {res : Option Value × gw_H} {x1 : Int} {x2 : Int} {x3 : Int} {x4 : Int} (H : ((R (G243 N)) ∧ ((R x4) ∧ (((G243 N) ≤ x4 → Ev 5 265 80 [some (.ref 59), some (.int (J x1)), some (.int (J x2)), some (.int (J x3)), some (.int (J 0)), none] [] (hs E (jm N)) res) ∧ (¬ (G243 N) ≤ x4 → ((0 ≤ x4 ∧ x4 < 64) ∧ ((R ((N 69) x4)) ∧ ((R x1) ∧ ((((N 69) x4) = x1 → ((R ((N 77) x4)) ∧ ((((N 77) x4) = 12 → res = (some (.int (J (-104))), hs E (jm N))) ∧ (¬ ((N 77) x4) = 12 → Ev 5 265 36 [some (.ref 59), some (.int (J x1)), some (.int (J x2)), some (.int (J x3)), some (.int (J (x4 + 1))), none] [] (hs E (jm N)) res)))) ∧ (¬ ((N 69) x4) = x1 → Ev 5 265 36 [some (.ref 59), some (.int (J x1)), some (.int (J x2)), some (.int (J x3)), some (.int (J (x4 + 1))), none] [] (hs E (jm N)) res)))))))))) : Ev 5 265 36 [some (.ref 59), some (.int (J x1)), some (.int (J x2)), some (.int (J x3)), some (.int (J x4)), none] [] (hs E (jm N)) res := by
  refine w265_36 ?_
  obtain ⟨q1, q2, H⟩ := H
  refine ⟨fun hc => ?_, fun hc => ?_⟩
  · replace H := H.1 ((le_J ((congrArg F243 rfl).trans (t243)) rfl q1 q2).mp hc)
    exact Ev_to (clx (cli rfl (cli rfl (cli rfl (cli jl_0 (clx rfl)))))) rfl rfl H
  · replace H := H.2 (fun hz => hc ((le_J ((congrArg F243 rfl).trans (t243)) rfl q1 q2).mpr hz))
    obtain ⟨q3, H⟩ := H
    refine ⟨inb_J rfl q3 (by decide), ?_⟩
    obtain ⟨q4, q5, H⟩ := H
    refine ⟨fun hc => ?_, fun hc => ?_⟩
    · replace H := H.1 ((eq_J (rd_J (jf_base _ _) rfl q3 (by decide)) rfl q4 q5).mp hc)
      refine ⟨inb_J rfl q3 (by decide), ?_⟩
      obtain ⟨q6, H⟩ := H
      refine ⟨fun hc => ?_, fun hc => ?_⟩
      · replace H := H.1 ((eq_J (rd_J (jf_base _ _) rfl q3 (by decide)) jl_12 q6 (by decide)).mp hc)
        exact H.trans (rt_i jl_m104 rfl)
      · replace H := H.2 (fun hz => hc ((eq_J (rd_J (jf_base _ _) rfl q3 (by decide)) jl_12 q6 (by decide)).mpr hz))
        exact Ev_to (clx (cli rfl (cli rfl (cli rfl (cli (add_J rfl jl_1) (clx rfl)))))) rfl rfl H
    · replace H := H.2 (fun hz => hc ((eq_J (rd_J (jf_base _ _) rfl q3 (by decide)) rfl q4 q5).mpr hz))
      exact Ev_to (clx (cli rfl (cli rfl (cli rfl (cli (add_J rfl jl_1) (clx rfl)))))) rfl rfl H
theorem v265_80 {E : gw_N} {N : NM} {res : Option Value × gw_H} {x1 : Int} {x2 : Int} {x3 : Int} {x4 : Int} (H : ((R (G243 N)) ∧ ((R x4) ∧ (((G243 N) ≤ x4 → (∃ (r1 : Int), Rn 249 [.ref 59, .int (J x1)] (hs E (jm N)) (some (.int (J r1))) (hs E (jm N)) ∧ res = (some (.int (J r1)), hs E (jm N)))) ∧ (¬ (G243 N) ≤ x4 → ((0 ≤ x4 ∧ x4 < 64) ∧ ((R ((N 69) x4)) ∧ ((R x1) ∧ ((((N 69) x4) = x1 → ((0 ≤ ((12 * x4) + ((N 77) x4)) ∧ ((12 * x4) + ((N 77) x4)) < 768) ∧ Ev 5 265 80 [some (.ref 59), some (.int (J x1)), some (.int (J x2)), some (.int (J x3)), some (.int (J (x4 + 1))), none] [] (hs E (jm (upZ (upZ (upZ (upZ N 78 (updZ (N 78) ((12 * x4) + ((N 77) x4)) x2)) 79 (updZ (N 79) ((12 * x4) + ((N 77) x4)) x3)) 80 (updZ (N 80) ((12 * x4) + ((N 77) x4)) 0)) 77 (updZ (N 77) x4 (((N 77) x4) + 1))))) res)) ∧ (¬ ((N 69) x4) = x1 → Ev 5 265 80 [some (.ref 59), some (.int (J x1)), some (.int (J x2)), some (.int (J x3)), some (.int (J (x4 + 1))), none] [] (hs E (jm N)) res)))))))))) : Ev 5 265 80 [some (.ref 59), some (.int (J x1)), some (.int (J x2)), some (.int (J x3)), some (.int (J x4)), none] [] (hs E (jm N)) res := by
  refine w265_80 ?_
  obtain ⟨q1, q2, H⟩ := H
  refine ⟨fun hc => ?_, fun hc => ?_⟩
  · replace H := H.1 ((le_J ((congrArg F243 rfl).trans (t243)) rfl q1 q2).mp hc)
    obtain ⟨r1, q3, H⟩ := H
    refine ⟨J r1, Rn_to (clx (cai rfl rfl)) rfl rfl q3, ?_⟩
    exact H.trans (rt_i rfl rfl)
  · replace H := H.2 (fun hz => hc ((le_J ((congrArg F243 rfl).trans (t243)) rfl q1 q2).mpr hz))
    obtain ⟨q4, H⟩ := H
    refine ⟨inb_J rfl q4 (by decide), ?_⟩
    obtain ⟨q5, q6, H⟩ := H
    refine ⟨fun hc => ?_, fun hc => ?_⟩
    · replace H := H.1 ((eq_J (rd_J (jf_base _ _) rfl q4 (by decide)) rfl q5 q6).mp hc)
      refine ⟨inb_J rfl q4 (by decide), ?_⟩
      obtain ⟨q7, H⟩ := H
      refine ⟨inb_J (add_J (mul_J jl_12 rfl) (rd_J (jf_base _ _) rfl q4 (by decide))) q7 (by decide), ?_⟩
      refine ⟨inb_J (add_J (mul_J jl_12 rfl) (rd_J (jf_base _ _) rfl q4 (by decide))) q7 (by decide), ?_⟩
      refine ⟨inb_J (add_J (mul_J jl_12 rfl) (rd_J (jf_base _ _) rfl q4 (by decide))) q7 (by decide), ?_⟩
      refine ⟨inb_J rfl q4 (by decide), ?_⟩
      refine ⟨inb_J rfl q4 (by decide), ?_⟩
      exact Ev_to (clx (cli rfl (cli rfl (cli rfl (cli (add_J rfl jl_1) (clx rfl)))))) rfl (jm_up (jm_up (jm_up (jm_up rfl (jf_upd (jf_base _ _) (add_J (mul_J jl_12 rfl) (rd_J (jf_base _ _) rfl q4 (by decide))) q7 (by decide) rfl)) (jf_upd (jf_base _ _) (add_J (mul_J jl_12 rfl) (rd_J (jf_base _ _) rfl q4 (by decide))) q7 (by decide) rfl)) (jf_upd (jf_base _ _) (add_J (mul_J jl_12 rfl) (rd_J (jf_base _ _) rfl q4 (by decide))) q7 (by decide) jl_0)) (jf_upd (jf_base _ _) rfl q4 (by decide) (add_J (rd_J (jf_base _ _) rfl q4 (by decide)) jl_1))) H
    · replace H := H.2 (fun hz => hc ((eq_J (rd_J (jf_base _ _) rfl q4 (by decide)) rfl q5 q6).mpr hz))
      exact Ev_to (clx (cli rfl (cli rfl (cli rfl (cli (add_J rfl jl_1) (clx rfl)))))) rfl rfl H
-- 266 GlassWiresModel empty (I)I
theorem v266_0 {E : gw_N} {N : NM} {res : Option Value × gw_H} {x1 : Int} (H : (∃ (r1 : Int) (N1 : NM), Rn 248 [.ref 59, .int (J x1)] (hs E (jm N)) (some (.int (J r1))) (hs E (jm N1)) ∧ ((R r1) ∧ ((r1 = 0 → res = (some (.int (J (-101))), hs E (jm N1))) ∧ (¬ r1 = 0 → Ev 5 266 15 [some (.ref 59), some (.int (J x1)), some (.int (J 0)), some (.int (J 0))] [] (hs E (jm N1)) res))))) : Ev 5 266 0 [some (.ref 59), some (.int (J x1)), none, none] [] (hs E (jm N)) res := by
  refine w266_0 ?_
  obtain ⟨r1, N1, q2, H⟩ := H
  refine ⟨J r1, jm N1, Rn_to (clx (cai rfl rfl)) rfl rfl q2, ?_⟩
  obtain ⟨q1, H⟩ := H
  refine ⟨fun hc => ?_, fun hc => ?_⟩
  · replace H := H.1 ((eq_J rfl jl_0 q1 (by decide)).mp hc)
    exact H.trans (rt_i jl_m101 rfl)
  · replace H := H.2 (fun hz => hc ((eq_J rfl jl_0 q1 (by decide)).mpr hz))
    exact Ev_to (clx (cli rfl (cli jl_0 (cli jl_0 rfl)))) rfl rfl H
theorem v266_15 {E : gw_N} {N : NM} {res : Option Value × gw_H} {x1 : Int} {x2 : Int} {x3 : Int} (H : ((R (G243 N)) ∧ ((R x3) ∧ (((G243 N) ≤ x3 → res = (some (.int (J x2)), hs E (jm N))) ∧ (¬ (G243 N) ≤ x3 → ((0 ≤ x3 ∧ x3 < 64) ∧ ((R ((N 69) x3)) ∧ ((R x1) ∧ ((((N 69) x3) = x1 → Ev 5 266 15 [some (.ref 59), some (.int (J x1)), some (.int (J (x2 + ((N 77) x3)))), some (.int (J (x3 + 1)))] [] (hs E (jm (upZ N 77 (updZ (N 77) x3 0)))) res) ∧ (¬ ((N 69) x3) = x1 → Ev 5 266 15 [some (.ref 59), some (.int (J x1)), some (.int (J x2)), some (.int (J (x3 + 1)))] [] (hs E (jm N)) res)))))))))) : Ev 5 266 15 [some (.ref 59), some (.int (J x1)), some (.int (J x2)), some (.int (J x3))] [] (hs E (jm N)) res := by
  refine w266_15 ?_
  obtain ⟨q1, q2, H⟩ := H
  refine ⟨fun hc => ?_, fun hc => ?_⟩
  · replace H := H.1 ((le_J ((congrArg F243 rfl).trans (t243)) rfl q1 q2).mp hc)
    exact H.trans (rt_i rfl rfl)
  · replace H := H.2 (fun hz => hc ((le_J ((congrArg F243 rfl).trans (t243)) rfl q1 q2).mpr hz))
    obtain ⟨q3, H⟩ := H
    refine ⟨inb_J rfl q3 (by decide), ?_⟩
    obtain ⟨q4, q5, H⟩ := H
    refine ⟨fun hc => ?_, fun hc => ?_⟩
    · replace H := H.1 ((eq_J (rd_J (jf_base _ _) rfl q3 (by decide)) rfl q4 q5).mp hc)
      refine ⟨inb_J rfl q3 (by decide), ?_⟩
      refine ⟨inb_J rfl q3 (by decide), ?_⟩
      exact Ev_to (clx (cli rfl (cli (add_J rfl (rd_J (jf_base _ _) rfl q3 (by decide))) (cli (add_J rfl jl_1) rfl)))) rfl (jm_up rfl (jf_upd (jf_base _ _) rfl q3 (by decide) jl_0)) H
    · replace H := H.2 (fun hz => hc ((eq_J (rd_J (jf_base _ _) rfl q3 (by decide)) rfl q4 q5).mpr hz))
      exact Ev_to (clx (cli rfl (cli rfl (cli (add_J rfl jl_1) rfl)))) rfl rfl H
-- 273 GlassWiresModel fire (I)I
theorem v273_0 {E : gw_N} {N : NM} {res : Option Value × gw_H} {x1 : Int} (H : ((R x1) ∧ (((if 1 ≤ x1 ∧ x1 ≤ 999 then (1 : Int) else 0) = 0 → res = (some (.int (J (-102))), hs E (jm N))) ∧ (¬ (if 1 ≤ x1 ∧ x1 ≤ 999 then (1 : Int) else 0) = 0 → Ev 5 273 19 [some (.ref 59), some (.int (J x1)), some (.int (J 0)), some (.int (J 0)), none, none, none] [] (hs E (jm N)) res)))) : Ev 5 273 0 [some (.ref 59), some (.int (J x1)), none, none, none, none, none] [] (hs E (jm N)) res := by
  refine w273_0 ?_
  obtain ⟨q1, H⟩ := H
  refine ⟨fun hc => ?_, fun hc => ?_⟩
  · replace H := H.1 ((eq_J (in_J (congrArg Int32.toInt64 rfl) ll_1 ll_999 q1 (by decide) (by decide)) jl_0 R_in (by decide)).mp hc)
    exact H.trans (rt_i jl_m102 rfl)
  · replace H := H.2 (fun hz => hc ((eq_J (in_J (congrArg Int32.toInt64 rfl) ll_1 ll_999 q1 (by decide) (by decide)) jl_0 R_in (by decide)).mpr hz))
    exact Ev_to (clx (cli rfl (cli jl_0 (cli jl_0 (clx (clx (clx rfl))))))) rfl rfl H
theorem v273_19 {E : gw_N} {N : NM} {res : Option Value × gw_H} {x1 : Int} {x2 : Int} {x3 : Int} (H : ((R (G243 N)) ∧ ((R x3) ∧ (((G243 N) ≤ x3 → (∃ (N1 : NM), Rn 271 [.ref 59] (hs E (jm N)) none (hs E (jm N1)) ∧ res = (some (.int (J x2)), hs E (jm (upZ N1 59 (updZ (N1 59) 29 (((N1 59) 29) + 1))))))) ∧ (¬ (G243 N) ≤ x3 → Ev 5 273 30 [some (.ref 59), some (.int (J x1)), some (.int (J x2)), some (.int (J x3)), some (.int (J 0)), none, none] [] (hs E (jm N)) res))))) : Ev 5 273 19 [some (.ref 59), some (.int (J x1)), some (.int (J x2)), some (.int (J x3)), none, none, none] [] (hs E (jm N)) res := by
  refine w273_19 ?_
  obtain ⟨q1, q2, H⟩ := H
  refine ⟨fun hc => ?_, fun hc => ?_⟩
  · replace H := H.1 ((le_J ((congrArg F243 rfl).trans (t243)) rfl q1 q2).mp hc)
    obtain ⟨N1, q3, H⟩ := H
    refine ⟨jm N1, Rn_to (clx rfl) rfl rfl q3, ?_⟩
    exact H.trans (rt_i rfl (jm_up rfl (jf_updk (jf_base _ _) (add_J (fld_J (jf_base _ _)) jl_1))))
  · replace H := H.2 (fun hz => hc ((le_J ((congrArg F243 rfl).trans (t243)) rfl q1 q2).mpr hz))
    exact Ev_to (clx (cli rfl (cli rfl (cli rfl (cli jl_0 (clx (clx rfl))))))) rfl rfl H
theorem v273_30 {E : gw_N} {N : NM} {res : Option Value × gw_H} {x1 : Int} {x2 : Int} {x3 : Int} {x4 : Int} (H : ((0 ≤ x3 ∧ x3 < 64) ∧ ((R ((N 77) x3)) ∧ ((R x4) ∧ ((((N 77) x3) ≤ x4 → Ev 5 273 19 [some (.ref 59), some (.int (J x1)), some (.int (J x2)), some (.int (J (x3 + 1))), none, none, none] [] (hs E (jm N)) res) ∧ (¬ ((N 77) x3) ≤ x4 → ((0 ≤ ((12 * x3) + x4) ∧ ((12 * x3) + x4) < 768) ∧ ((R ((N 80) ((12 * x3) + x4))) ∧ ((((N 80) ((12 * x3) + x4)) = 0 → ((0 ≤ ((N 78) ((12 * x3) + x4)) ∧ ((N 78) ((12 * x3) + x4)) < 8) ∧ ((R x1) ∧ ((R ((N 73) ((N 78) ((12 * x3) + x4)))) ∧ ((x1 < ((N 73) ((N 78) ((12 * x3) + x4))) → ((((N 80) ((12 * x3) + x4)) = 1 → ((R (((N 73) ((N 78) ((12 * x3) + x4))) + 50)) ∧ ((x1 ≤ (((N 73) ((N 78) ((12 * x3) + x4))) + 50) → Ev 5 273 30 [some (.ref 59), some (.int (J x1)), some (.int (J x2)), some (.int (J x3)), some (.int (J (x4 + 1))), none, none] [] (hs E (jm N)) res) ∧ (¬ x1 ≤ (((N 73) ((N 78) ((12 * x3) + x4))) + 50) → Ev 5 273 30 [some (.ref 59), some (.int (J x1)), some (.int (J x2)), some (.int (J x3)), some (.int (J (x4 + 1))), none, none] [] (hs E (jm (upZ N 80 (updZ (N 80) ((12 * x3) + x4) 2)))) res)))) ∧ (¬ ((N 80) ((12 * x3) + x4)) = 1 → Ev 5 273 30 [some (.ref 59), some (.int (J x1)), some (.int (J x2)), some (.int (J x3)), some (.int (J (x4 + 1))), none, none] [] (hs E (jm N)) res))) ∧ (¬ x1 < ((N 73) ((N 78) ((12 * x3) + x4))) → ((R ((updZ (N 80) ((12 * x3) + x4) 1) ((12 * x3) + x4))) ∧ ((((updZ (N 80) ((12 * x3) + x4) 1) ((12 * x3) + x4)) = 1 → ((R (((N 73) ((N 78) ((12 * x3) + x4))) + 50)) ∧ ((x1 ≤ (((N 73) ((N 78) ((12 * x3) + x4))) + 50) → ((R (((N 79) ((12 * x3) + x4)) * ((N 74) ((N 78) ((12 * x3) + x4))))) ∧ Ev 5 273 30 [some (.ref 59), some (.int (J x1)), some (.int (J (x2 + 1))), some (.int (J x3)), some (.int (J (x4 + 1))), none, none] [] (hs E (jm (upZ (upZ N 80 (updZ (N 80) ((12 * x3) + x4) 1)) 79 (updZ (N 79) ((12 * x3) + x4) (((N 79) ((12 * x3) + x4)) - (Int.tdiv (((N 79) ((12 * x3) + x4)) * ((N 74) ((N 78) ((12 * x3) + x4)))) 10)))))) res)) ∧ (¬ x1 ≤ (((N 73) ((N 78) ((12 * x3) + x4))) + 50) → ((R (((N 79) ((12 * x3) + x4)) * ((N 74) ((N 78) ((12 * x3) + x4))))) ∧ Ev 5 273 30 [some (.ref 59), some (.int (J x1)), some (.int (J (x2 + 1))), some (.int (J x3)), some (.int (J (x4 + 1))), none, none] [] (hs E (jm (upZ (upZ N 80 (updZ (updZ (N 80) ((12 * x3) + x4) 1) ((12 * x3) + x4) 2)) 79 (updZ (N 79) ((12 * x3) + x4) (((N 79) ((12 * x3) + x4)) - (Int.tdiv (((N 79) ((12 * x3) + x4)) * ((N 74) ((N 78) ((12 * x3) + x4)))) 10)))))) res))))) ∧ (¬ ((updZ (N 80) ((12 * x3) + x4) 1) ((12 * x3) + x4)) = 1 → ((R (((N 79) ((12 * x3) + x4)) * ((N 74) ((N 78) ((12 * x3) + x4))))) ∧ Ev 5 273 30 [some (.ref 59), some (.int (J x1)), some (.int (J (x2 + 1))), some (.int (J x3)), some (.int (J (x4 + 1))), none, none] [] (hs E (jm (upZ (upZ N 80 (updZ (N 80) ((12 * x3) + x4) 1)) 79 (updZ (N 79) ((12 * x3) + x4) (((N 79) ((12 * x3) + x4)) - (Int.tdiv (((N 79) ((12 * x3) + x4)) * ((N 74) ((N 78) ((12 * x3) + x4)))) 10)))))) res)))))))))) ∧ (¬ ((N 80) ((12 * x3) + x4)) = 0 → ((((N 80) ((12 * x3) + x4)) = 1 → ((0 ≤ ((N 78) ((12 * x3) + x4)) ∧ ((N 78) ((12 * x3) + x4)) < 8) ∧ ((R x1) ∧ ((R (((N 73) ((N 78) ((12 * x3) + x4))) + 50)) ∧ ((x1 ≤ (((N 73) ((N 78) ((12 * x3) + x4))) + 50) → Ev 5 273 30 [some (.ref 59), some (.int (J x1)), some (.int (J x2)), some (.int (J x3)), some (.int (J (x4 + 1))), none, none] [] (hs E (jm N)) res) ∧ (¬ x1 ≤ (((N 73) ((N 78) ((12 * x3) + x4))) + 50) → Ev 5 273 30 [some (.ref 59), some (.int (J x1)), some (.int (J x2)), some (.int (J x3)), some (.int (J (x4 + 1))), none, none] [] (hs E (jm (upZ N 80 (updZ (N 80) ((12 * x3) + x4) 2)))) res)))))) ∧ (¬ ((N 80) ((12 * x3) + x4)) = 1 → Ev 5 273 30 [some (.ref 59), some (.int (J x1)), some (.int (J x2)), some (.int (J x3)), some (.int (J (x4 + 1))), none, none] [] (hs E (jm N)) res)))))))))))) : Ev 5 273 30 [some (.ref 59), some (.int (J x1)), some (.int (J x2)), some (.int (J x3)), some (.int (J x4)), none, none] [] (hs E (jm N)) res := by
  refine w273_30 ?_
  obtain ⟨q1, H⟩ := H
  refine ⟨inb_J rfl q1 (by decide), ?_⟩
  obtain ⟨q2, q3, H⟩ := H
  refine ⟨fun hc => ?_, fun hc => ?_⟩
  · replace H := H.1 ((le_J (rd_J (jf_base _ _) rfl q1 (by decide)) rfl q2 q3).mp hc)
    exact Ev_to (clx (cli rfl (cli rfl (cli (add_J rfl jl_1) (clx (clx (clx rfl))))))) rfl rfl H
  · replace H := H.2 (fun hz => hc ((le_J (rd_J (jf_base _ _) rfl q1 (by decide)) rfl q2 q3).mpr hz))
    obtain ⟨q4, H⟩ := H
    refine ⟨inb_J (add_J (mul_J jl_12 rfl) rfl) q4 (by decide), ?_⟩
    refine ⟨inb_J (add_J (mul_J jl_12 rfl) rfl) q4 (by decide), ?_⟩
    obtain ⟨q5, H⟩ := H
    refine ⟨fun hc => ?_, fun hc => ?_⟩
    · replace H := H.1 ((eq_J (rd_J (jf_base _ _) (add_J (mul_J jl_12 rfl) rfl) q4 (by decide)) jl_0 q5 (by decide)).mp hc)
      obtain ⟨q6, H⟩ := H
      refine ⟨inb_J (rd_J (jf_base _ _) (add_J (mul_J jl_12 rfl) rfl) q4 (by decide)) q6 (by decide), ?_⟩
      obtain ⟨q7, q8, H⟩ := H
      refine ⟨fun hc => ?_, fun hc => ?_⟩
      · replace H := H.1 ((lt_J rfl (rd_J (jf_base _ _) (rd_J (jf_base _ _) (add_J (mul_J jl_12 rfl) rfl) q4 (by decide)) q6 (by decide)) q7 q8).mp hc)
        refine ⟨inb_J (add_J (mul_J jl_12 rfl) rfl) q4 (by decide), ?_⟩
        refine ⟨fun hc => ?_, fun hc => ?_⟩
        · replace H := H.1 ((eq_J (rd_J (jf_base _ _) (add_J (mul_J jl_12 rfl) rfl) q4 (by decide)) jl_1 q5 (by decide)).mp hc)
          refine ⟨inb_J (rd_J (jf_base _ _) (add_J (mul_J jl_12 rfl) rfl) q4 (by decide)) q6 (by decide), ?_⟩
          obtain ⟨q9, H⟩ := H
          refine ⟨fun hc => ?_, fun hc => ?_⟩
          · replace H := H.1 ((le_J rfl (add_J (rd_J (jf_base _ _) (rd_J (jf_base _ _) (add_J (mul_J jl_12 rfl) rfl) q4 (by decide)) q6 (by decide)) jl_50) q7 q9).mp hc)
            exact Ev_to (clx (cli rfl (cli rfl (cli rfl (cli (add_J rfl jl_1) (clx (clx rfl))))))) rfl rfl H
          · replace H := H.2 (fun hz => hc ((le_J rfl (add_J (rd_J (jf_base _ _) (rd_J (jf_base _ _) (add_J (mul_J jl_12 rfl) rfl) q4 (by decide)) q6 (by decide)) jl_50) q7 q9).mpr hz))
            refine ⟨inb_J (add_J (mul_J jl_12 rfl) rfl) q4 (by decide), ?_⟩
            exact Ev_to (clx (cli rfl (cli rfl (cli rfl (cli (add_J rfl jl_1) (clx (clx rfl))))))) rfl (jm_up rfl (jf_upd (jf_base _ _) (add_J (mul_J jl_12 rfl) rfl) q4 (by decide) jl_2)) H
        · replace H := H.2 (fun hz => hc ((eq_J (rd_J (jf_base _ _) (add_J (mul_J jl_12 rfl) rfl) q4 (by decide)) jl_1 q5 (by decide)).mpr hz))
          exact Ev_to (clx (cli rfl (cli rfl (cli rfl (cli (add_J rfl jl_1) (clx (clx rfl))))))) rfl rfl H
      · replace H := H.2 (fun hz => hc ((lt_J rfl (rd_J (jf_base _ _) (rd_J (jf_base _ _) (add_J (mul_J jl_12 rfl) rfl) q4 (by decide)) q6 (by decide)) q7 q8).mpr hz))
        refine ⟨inb_J (add_J (mul_J jl_12 rfl) rfl) q4 (by decide), ?_⟩
        refine ⟨inb_J (add_J (mul_J jl_12 rfl) rfl) q4 (by decide), ?_⟩
        refine ⟨inb_J (add_J (mul_J jl_12 rfl) rfl) q4 (by decide), ?_⟩
        refine ⟨inb_J (rd_J (jf_base _ _) (add_J (mul_J jl_12 rfl) rfl) q4 (by decide)) q6 (by decide), ?_⟩
        refine ⟨inb_J (add_J (mul_J jl_12 rfl) rfl) q4 (by decide), ?_⟩
        refine ⟨inb_J (add_J (mul_J jl_12 rfl) rfl) q4 (by decide), ?_⟩
        obtain ⟨q10, H⟩ := H
        refine ⟨fun hc => ?_, fun hc => ?_⟩
        · replace H := H.1 ((eq_J (rd_J (jf_upd (jf_base _ _) (add_J (mul_J jl_12 rfl) rfl) q4 (by decide) jl_1) (add_J (mul_J jl_12 rfl) rfl) q4 (by decide)) jl_1 q10 (by decide)).mp hc)
          refine ⟨inb_J (rd_J (jf_base _ _) (add_J (mul_J jl_12 rfl) rfl) q4 (by decide)) q6 (by decide), ?_⟩
          obtain ⟨q11, H⟩ := H
          refine ⟨fun hc => ?_, fun hc => ?_⟩
          · replace H := H.1 ((le_J rfl (add_J (rd_J (jf_base _ _) (rd_J (jf_base _ _) (add_J (mul_J jl_12 rfl) rfl) q4 (by decide)) q6 (by decide)) jl_50) q7 q11).mp hc)
            obtain ⟨q12, H⟩ := H
            exact Ev_to (clx (cli rfl (cli (add_J rfl jl_1) (cli rfl (cli (add_J rfl jl_1) (clx (clx rfl))))))) rfl (jm_up (jm_up rfl (jf_upd (jf_base _ _) (add_J (mul_J jl_12 rfl) rfl) q4 (by decide) jl_1)) (jf_upd (jf_base _ _) (add_J (mul_J jl_12 rfl) rfl) q4 (by decide) (sub_J (rd_J (jf_base _ _) (add_J (mul_J jl_12 rfl) rfl) q4 (by decide)) (div_J (mul_J (rd_J (jf_base _ _) (add_J (mul_J jl_12 rfl) rfl) q4 (by decide)) (rd_J (jf_base _ _) (rd_J (jf_base _ _) (add_J (mul_J jl_12 rfl) rfl) q4 (by decide)) q6 (by decide))) jl_10 q12 (by decide) (by decide))))) H
          · replace H := H.2 (fun hz => hc ((le_J rfl (add_J (rd_J (jf_base _ _) (rd_J (jf_base _ _) (add_J (mul_J jl_12 rfl) rfl) q4 (by decide)) q6 (by decide)) jl_50) q7 q11).mpr hz))
            refine ⟨inb_J (add_J (mul_J jl_12 rfl) rfl) q4 (by decide), ?_⟩
            obtain ⟨q13, H⟩ := H
            exact Ev_to (clx (cli rfl (cli (add_J rfl jl_1) (cli rfl (cli (add_J rfl jl_1) (clx (clx rfl))))))) rfl (jm_up (jm_up rfl (jf_upd (jf_upd (jf_base _ _) (add_J (mul_J jl_12 rfl) rfl) q4 (by decide) jl_1) (add_J (mul_J jl_12 rfl) rfl) q4 (by decide) jl_2)) (jf_upd (jf_base _ _) (add_J (mul_J jl_12 rfl) rfl) q4 (by decide) (sub_J (rd_J (jf_base _ _) (add_J (mul_J jl_12 rfl) rfl) q4 (by decide)) (div_J (mul_J (rd_J (jf_base _ _) (add_J (mul_J jl_12 rfl) rfl) q4 (by decide)) (rd_J (jf_base _ _) (rd_J (jf_base _ _) (add_J (mul_J jl_12 rfl) rfl) q4 (by decide)) q6 (by decide))) jl_10 q13 (by decide) (by decide))))) H
        · replace H := H.2 (fun hz => hc ((eq_J (rd_J (jf_upd (jf_base _ _) (add_J (mul_J jl_12 rfl) rfl) q4 (by decide) jl_1) (add_J (mul_J jl_12 rfl) rfl) q4 (by decide)) jl_1 q10 (by decide)).mpr hz))
          obtain ⟨q14, H⟩ := H
          exact Ev_to (clx (cli rfl (cli (add_J rfl jl_1) (cli rfl (cli (add_J rfl jl_1) (clx (clx rfl))))))) rfl (jm_up (jm_up rfl (jf_upd (jf_base _ _) (add_J (mul_J jl_12 rfl) rfl) q4 (by decide) jl_1)) (jf_upd (jf_base _ _) (add_J (mul_J jl_12 rfl) rfl) q4 (by decide) (sub_J (rd_J (jf_base _ _) (add_J (mul_J jl_12 rfl) rfl) q4 (by decide)) (div_J (mul_J (rd_J (jf_base _ _) (add_J (mul_J jl_12 rfl) rfl) q4 (by decide)) (rd_J (jf_base _ _) (rd_J (jf_base _ _) (add_J (mul_J jl_12 rfl) rfl) q4 (by decide)) q6 (by decide))) jl_10 q14 (by decide) (by decide))))) H
    · replace H := H.2 (fun hz => hc ((eq_J (rd_J (jf_base _ _) (add_J (mul_J jl_12 rfl) rfl) q4 (by decide)) jl_0 q5 (by decide)).mpr hz))
      refine ⟨inb_J (add_J (mul_J jl_12 rfl) rfl) q4 (by decide), ?_⟩
      refine ⟨fun hc => ?_, fun hc => ?_⟩
      · replace H := H.1 ((eq_J (rd_J (jf_base _ _) (add_J (mul_J jl_12 rfl) rfl) q4 (by decide)) jl_1 q5 (by decide)).mp hc)
        obtain ⟨q15, H⟩ := H
        refine ⟨inb_J (rd_J (jf_base _ _) (add_J (mul_J jl_12 rfl) rfl) q4 (by decide)) q15 (by decide), ?_⟩
        obtain ⟨q16, q17, H⟩ := H
        refine ⟨fun hc => ?_, fun hc => ?_⟩
        · replace H := H.1 ((le_J rfl (add_J (rd_J (jf_base _ _) (rd_J (jf_base _ _) (add_J (mul_J jl_12 rfl) rfl) q4 (by decide)) q15 (by decide)) jl_50) q16 q17).mp hc)
          exact Ev_to (clx (cli rfl (cli rfl (cli rfl (cli (add_J rfl jl_1) (clx (clx rfl))))))) rfl rfl H
        · replace H := H.2 (fun hz => hc ((le_J rfl (add_J (rd_J (jf_base _ _) (rd_J (jf_base _ _) (add_J (mul_J jl_12 rfl) rfl) q4 (by decide)) q15 (by decide)) jl_50) q16 q17).mpr hz))
          refine ⟨inb_J (add_J (mul_J jl_12 rfl) rfl) q4 (by decide), ?_⟩
          exact Ev_to (clx (cli rfl (cli rfl (cli rfl (cli (add_J rfl jl_1) (clx (clx rfl))))))) rfl (jm_up rfl (jf_upd (jf_base _ _) (add_J (mul_J jl_12 rfl) rfl) q4 (by decide) jl_2)) H
      · replace H := H.2 (fun hz => hc ((eq_J (rd_J (jf_base _ _) (add_J (mul_J jl_12 rfl) rfl) q4 (by decide)) jl_1 q5 (by decide)).mpr hz))
        exact Ev_to (clx (cli rfl (cli rfl (cli rfl (cli (add_J rfl jl_1) (clx (clx rfl))))))) rfl rfl H
-- 278 GlassWiresModel state (I)I
theorem v278_0 {E : gw_N} {N : NM} {res : Option Value × gw_H} {x1 : Int} (H : ((R x1) ∧ ((x1 = 0 → Ev 5 278 42 [some (.ref 59), some (.int (J x1)), some (.int (J 0)), some (.int (J 0)), none] [] (hs E (jm N)) res) ∧ (x1 = 1 → Ev 5 278 42 [some (.ref 59), some (.int (J x1)), some (.int (J 0)), some (.int (J 0)), none] [] (hs E (jm N)) res) ∧ (x1 = 2 → Ev 5 278 42 [some (.ref 59), some (.int (J x1)), some (.int (J 0)), some (.int (J 0)), none] [] (hs E (jm N)) res) ∧ (x1 = 3 → Ev 5 278 104 [some (.ref 59), none, some (.int (J 0)), some (.int (J 0)), none] [] (hs E (jm N)) res) ∧ (x1 = 4 → (∃ (r1 : Int), Rn 277 [.ref 59] (hs E (jm N)) (some (.int (J r1))) (hs E (jm N)) ∧ res = (some (.int (J r1)), hs E (jm N)))) ∧ (x1 = 5 → res = (some (.int (J ((N 59) 29))), hs E (jm N))) ∧ (¬ x1 = 0 → ¬ x1 = 1 → ¬ x1 = 2 → ¬ x1 = 3 → ¬ x1 = 4 → ¬ x1 = 5 → res = (some (.int (J (-102))), hs E (jm N)))))) : Ev 5 278 0 [some (.ref 59), some (.int (J x1)), none, none, none] [] (hs E (jm N)) res := by
  refine w278_0 ?_
  obtain ⟨q1, H⟩ := H
  refine ⟨fun hc => ?_, fun hc => ?_, fun hc => ?_, fun hc => ?_, fun hc => ?_, fun hc => ?_, fun hc0 hc1 hc2 hc3 hc4 hc5 => ?_⟩
  · replace H := (H.1) ((eq_J rfl jl_0 q1 (by decide)).mp hc)
    exact Ev_to (clx (cli rfl (cli jl_0 (cli jl_0 (clx rfl))))) rfl rfl H
  · replace H := (H.2.1) ((eq_J rfl jl_1 q1 (by decide)).mp hc)
    exact Ev_to (clx (cli rfl (cli jl_0 (cli jl_0 (clx rfl))))) rfl rfl H
  · replace H := (H.2.2.1) ((eq_J rfl jl_2 q1 (by decide)).mp hc)
    exact Ev_to (clx (cli rfl (cli jl_0 (cli jl_0 (clx rfl))))) rfl rfl H
  · replace H := (H.2.2.2.1) ((eq_J rfl jl_3 q1 (by decide)).mp hc)
    exact Ev_to (clx (clx (cli jl_0 (cli jl_0 (clx rfl))))) rfl rfl H
  · replace H := (H.2.2.2.2.1) ((eq_J rfl jl_4 q1 (by decide)).mp hc)
    obtain ⟨r1, q2, H⟩ := H
    refine ⟨J r1, Rn_to (clx rfl) rfl rfl q2, ?_⟩
    exact H.trans (rt_i rfl rfl)
  · replace H := (H.2.2.2.2.2.1) ((eq_J rfl jl_5 q1 (by decide)).mp hc)
    exact H.trans (rt_i (fld_J (jf_base _ _)) rfl)
  · replace H := (H.2.2.2.2.2.2) (fun hz => hc0 ((eq_J rfl jl_0 q1 (by decide)).mpr hz)) (fun hz => hc1 ((eq_J rfl jl_1 q1 (by decide)).mpr hz)) (fun hz => hc2 ((eq_J rfl jl_2 q1 (by decide)).mpr hz)) (fun hz => hc3 ((eq_J rfl jl_3 q1 (by decide)).mpr hz)) (fun hz => hc4 ((eq_J rfl jl_4 q1 (by decide)).mpr hz)) (fun hz => hc5 ((eq_J rfl jl_5 q1 (by decide)).mpr hz))
    exact H.trans (rt_i jl_m102 rfl)
theorem v278_42 {E : gw_N} {N : NM} {res : Option Value × gw_H} {x1 : Int} {x2 : Int} {x3 : Int} (H : ((R (G243 N)) ∧ ((R x3) ∧ (((G243 N) ≤ x3 → res = (some (.int (J x2)), hs E (jm N))) ∧ (¬ (G243 N) ≤ x3 → Ev 5 278 53 [some (.ref 59), some (.int (J x1)), some (.int (J x2)), some (.int (J x3)), some (.int (J 0))] [] (hs E (jm N)) res))))) : Ev 5 278 42 [some (.ref 59), some (.int (J x1)), some (.int (J x2)), some (.int (J x3)), none] [] (hs E (jm N)) res := by
  refine w278_42 ?_
  obtain ⟨q1, q2, H⟩ := H
  refine ⟨fun hc => ?_, fun hc => ?_⟩
  · replace H := H.1 ((le_J ((congrArg F243 rfl).trans (t243)) rfl q1 q2).mp hc)
    exact H.trans (rt_i rfl rfl)
  · replace H := H.2 (fun hz => hc ((le_J ((congrArg F243 rfl).trans (t243)) rfl q1 q2).mpr hz))
    exact Ev_to (clx (cli rfl (cli rfl (cli rfl (cli jl_0 rfl))))) rfl rfl H
theorem v278_104 {E : gw_N} {N : NM} {res : Option Value × gw_H} {x2 : Int} {x3 : Int} (H : ((R (G243 N)) ∧ ((R x3) ∧ (((G243 N) ≤ x3 → res = (some (.int (J x2)), hs E (jm N))) ∧ (¬ (G243 N) ≤ x3 → (∃ (r1 : Int), Rn 267 [.ref 59, .int (J x3)] (hs E (jm N)) (some (.int (J r1))) (hs E (jm N)) ∧ ((R r1) ∧ ((R ((N 59) 22)) ∧ ((r1 < ((N 59) 22) → Ev 5 278 104 [some (.ref 59), none, some (.int (J (x2 + 0))), some (.int (J (x3 + 1))), none] [] (hs E (jm N)) res) ∧ (¬ r1 < ((N 59) 22) → Ev 5 278 104 [some (.ref 59), none, some (.int (J (x2 + 1))), some (.int (J (x3 + 1))), none] [] (hs E (jm N)) res)))))))))) : Ev 5 278 104 [some (.ref 59), none, some (.int (J x2)), some (.int (J x3)), none] [] (hs E (jm N)) res := by
  refine w278_104 ?_
  obtain ⟨q1, q2, H⟩ := H
  refine ⟨fun hc => ?_, fun hc => ?_⟩
  · replace H := H.1 ((le_J ((congrArg F243 rfl).trans (t243)) rfl q1 q2).mp hc)
    exact H.trans (rt_i rfl rfl)
  · replace H := H.2 (fun hz => hc ((le_J ((congrArg F243 rfl).trans (t243)) rfl q1 q2).mpr hz))
    obtain ⟨r1, q5, H⟩ := H
    refine ⟨J r1, Rn_to (clx (cai rfl rfl)) rfl rfl q5, ?_⟩
    obtain ⟨q3, q4, H⟩ := H
    refine ⟨fun hc => ?_, fun hc => ?_⟩
    · replace H := H.1 ((lt_J rfl (fld_J (jf_base _ _)) q3 q4).mp hc)
      exact Ev_to (clx (clx (cli (add_J rfl jl_0) (cli (add_J rfl jl_1) (clx rfl))))) rfl rfl H
    · replace H := H.2 (fun hz => hc ((lt_J rfl (fld_J (jf_base _ _)) q3 q4).mpr hz))
      exact Ev_to (clx (clx (cli (add_J rfl jl_1) (cli (add_J rfl jl_1) (clx rfl))))) rfl rfl H
theorem v278_53 {E : gw_N} {N : NM} {res : Option Value × gw_H} {x1 : Int} {x2 : Int} {x3 : Int} {x4 : Int} (H : ((0 ≤ x3 ∧ x3 < 64) ∧ ((R ((N 77) x3)) ∧ ((R x4) ∧ ((((N 77) x3) ≤ x4 → Ev 5 278 42 [some (.ref 59), some (.int (J x1)), some (.int (J x2)), some (.int (J (x3 + 1))), none] [] (hs E (jm N)) res) ∧ (¬ ((N 77) x3) ≤ x4 → ((0 ≤ ((12 * x3) + x4) ∧ ((12 * x3) + x4) < 768) ∧ ((R ((N 80) ((12 * x3) + x4))) ∧ ((R x1) ∧ ((((N 80) ((12 * x3) + x4)) = x1 → Ev 5 278 53 [some (.ref 59), some (.int (J x1)), some (.int (J (x2 + 1))), some (.int (J x3)), some (.int (J (x4 + 1)))] [] (hs E (jm N)) res) ∧ (¬ ((N 80) ((12 * x3) + x4)) = x1 → Ev 5 278 53 [some (.ref 59), some (.int (J x1)), some (.int (J (x2 + 0))), some (.int (J x3)), some (.int (J (x4 + 1)))] [] (hs E (jm N)) res))))))))))) : Ev 5 278 53 [some (.ref 59), some (.int (J x1)), some (.int (J x2)), some (.int (J x3)), some (.int (J x4))] [] (hs E (jm N)) res := by
  refine w278_53 ?_
  obtain ⟨q1, H⟩ := H
  refine ⟨inb_J rfl q1 (by decide), ?_⟩
  obtain ⟨q2, q3, H⟩ := H
  refine ⟨fun hc => ?_, fun hc => ?_⟩
  · replace H := H.1 ((le_J (rd_J (jf_base _ _) rfl q1 (by decide)) rfl q2 q3).mp hc)
    exact Ev_to (clx (cli rfl (cli rfl (cli (add_J rfl jl_1) (clx rfl))))) rfl rfl H
  · replace H := H.2 (fun hz => hc ((le_J (rd_J (jf_base _ _) rfl q1 (by decide)) rfl q2 q3).mpr hz))
    obtain ⟨q4, H⟩ := H
    refine ⟨inb_J (add_J (mul_J jl_12 rfl) rfl) q4 (by decide), ?_⟩
    obtain ⟨q5, q6, H⟩ := H
    refine ⟨fun hc => ?_, fun hc => ?_⟩
    · replace H := H.1 ((eq_J (rd_J (jf_base _ _) (add_J (mul_J jl_12 rfl) rfl) q4 (by decide)) rfl q5 q6).mp hc)
      exact Ev_to (clx (cli rfl (cli (add_J rfl jl_1) (cli rfl (cli (add_J rfl jl_1) rfl))))) rfl rfl H
    · replace H := H.2 (fun hz => hc ((eq_J (rd_J (jf_base _ _) (add_J (mul_J jl_12 rfl) rfl) q4 (by decide)) rfl q5 q6).mpr hz))
      exact Ev_to (clx (cli rfl (cli (add_J rfl jl_0) (cli rfl (cli (add_J rfl jl_1) rfl))))) rfl rfl H
-- 289 GlassWiresModel bow (I)I
theorem v289_0 {E : gw_N} {N : NM} {res : Option Value × gw_H} {x1 : Int} (H : ((R x1) ∧ ((x1 = 0 → (∃ (r1 : Int), Rn 288 [.ref 59] (hs E (jm N)) (some (.int (J r1))) (hs E (jm N)) ∧ res = (some (.int (J r1)), hs E (jm N)))) ∧ (¬ x1 = 0 → ((x1 = 1 → (∃ (r2 : Int), Rn 288 [.ref 59] (hs E (jm N)) (some (.int (J r2))) (hs E (jm N)) ∧ ((R ((N 59) 23)) ∧ ((0 < ((N 59) 23)) ∧ ((R r2) ∧ res = (some (.int (J (Int.tdiv r2 ((N 59) 23)))), hs E (jm N))))))) ∧ (¬ x1 = 1 → res = (some (.int (J (-1000001))), hs E (jm N)))))))) : Ev 5 289 0 [some (.ref 59), some (.int (J x1))] [] (hs E (jm N)) res := by
  refine w289_0 ?_
  obtain ⟨q1, H⟩ := H
  refine ⟨fun hc => ?_, fun hc => ?_⟩
  · replace H := H.1 ((eq_J rfl jl_0 q1 (by decide)).mp hc)
    obtain ⟨r1, q2, H⟩ := H
    refine ⟨J r1, Rn_to (clx rfl) rfl rfl q2, ?_⟩
    exact H.trans (rt_i rfl rfl)
  · replace H := H.2 (fun hz => hc ((eq_J rfl jl_0 q1 (by decide)).mpr hz))
    refine ⟨fun hc => ?_, fun hc => ?_⟩
    · replace H := H.1 ((eq_J rfl jl_1 q1 (by decide)).mp hc)
      obtain ⟨r2, q6, H⟩ := H
      refine ⟨J r2, Rn_to (clx rfl) rfl rfl q6, ?_⟩
      obtain ⟨q3, q4, H⟩ := H
      refine ⟨nz_J (fld_J (jf_base _ _)) q3 q4, ?_⟩
      obtain ⟨q5, H⟩ := H
      exact H.trans (rt_i (div_J rfl (fld_J (jf_base _ _)) q5 q3 q4) rfl)
    · replace H := H.2 (fun hz => hc ((eq_J rfl jl_1 q1 (by decide)).mpr hz))
      exact H.trans (rt_i jl_m1000001 rfl)
-- 292 GlassWiresModel strainOf (I)I
theorem v292_0 {E : gw_N} {N : NM} {res : Option Value × gw_H} {x1 : Int} (H : (∃ (r1 : Int), Rn 288 [.ref 59] (hs E (jm N)) (some (.int (J r1))) (hs E (jm N)) ∧ ((Q290 N r1) ∧ ((R (x1 * (G290 N r1))) ∧ res = (some (.int (J (Int.tdiv (x1 * (G290 N r1)) 1000))), hs E (jm N)))))) : Ev 5 292 0 [some (.ref 59), some (.int (J x1))] [] (hs E (jm N)) res := by
  refine w292_0 ?_
  obtain ⟨r1, q3, H⟩ := H
  refine ⟨J r1, Rn_to (clx rfl) rfl rfl q3, ?_⟩
  obtain ⟨q1, H⟩ := H
  obtain ⟨q2, H⟩ := H
  exact H.trans (rt_i (div_J (mul_J rfl ((congr (congrArg F290 rfl) rfl).trans (t290 q1))) jl_1000 q2 (by decide) (by decide)) rfl)
-- 299 GlassWiresModel harms (II)I
theorem v299_0 {E : gw_N} {N : NM} {res : Option Value × gw_H} {x1 : Int} {x2 : Int} (H : (∃ (r1 : Int) (N1 : NM), Rn 248 [.ref 59, .int (J x1)] (hs E (jm N)) (some (.int (J r1))) (hs E (jm N1)) ∧ ((R r1) ∧ ((r1 = 0 → res = (some (.int (J (-101))), hs E (jm N1))) ∧ (¬ r1 = 0 → ((R x2) ∧ (((if 1 ≤ x2 ∧ x2 ≤ 999 then (1 : Int) else 0) = 0 → res = (some (.int (J (-102))), hs E (jm N1))) ∧ (¬ (if 1 ≤ x2 ∧ x2 ≤ 999 then (1 : Int) else 0) = 0 → (∃ (r2 : Int), Rn 298 [.ref 59, .int (J x1), .int (J x2)] (hs E (jm N1)) (some (.int (J r2))) (hs E (jm N1)) ∧ res = (some (.int (J r2)), hs E (jm N1))))))))))) : Ev 5 299 0 [some (.ref 59), some (.int (J x1)), some (.int (J x2))] [] (hs E (jm N)) res := by
  refine w299_0 ?_
  obtain ⟨r1, N1, q4, H⟩ := H
  refine ⟨J r1, jm N1, Rn_to (clx (cai rfl rfl)) rfl rfl q4, ?_⟩
  obtain ⟨q1, H⟩ := H
  refine ⟨fun hc => ?_, fun hc => ?_⟩
  · replace H := H.1 ((eq_J rfl jl_0 q1 (by decide)).mp hc)
    exact H.trans (rt_i jl_m101 rfl)
  · replace H := H.2 (fun hz => hc ((eq_J rfl jl_0 q1 (by decide)).mpr hz))
    obtain ⟨q2, H⟩ := H
    refine ⟨fun hc => ?_, fun hc => ?_⟩
    · replace H := H.1 ((eq_J (in_J (congrArg Int32.toInt64 rfl) ll_1 ll_999 q2 (by decide) (by decide)) jl_0 R_in (by decide)).mp hc)
      exact H.trans (rt_i jl_m102 rfl)
    · replace H := H.2 (fun hz => hc ((eq_J (in_J (congrArg Int32.toInt64 rfl) ll_1 ll_999 q2 (by decide) (by decide)) jl_0 R_in (by decide)).mpr hz))
      obtain ⟨r2, q3, H⟩ := H
      refine ⟨J r2, Rn_to (clx (cai rfl (cai rfl rfl))) rfl rfl q3, ?_⟩
      exact H.trans (rt_i rfl rfl)
-- 300 GlassWiresModel safe (III)I
theorem v300_0 {E : gw_N} {N : NM} {res : Option Value × gw_H} {x1 : Int} {x2 : Int} {x3 : Int} (H : (∃ (r1 : Int) (N1 : NM), Rn 248 [.ref 59, .int (J x1)] (hs E (jm N)) (some (.int (J r1))) (hs E (jm N1)) ∧ ((R r1) ∧ ((r1 = 0 → res = (some (.int (J (-101))), hs E (jm N1))) ∧ (¬ r1 = 0 → ((Q261 N1 x2) ∧ ((R (G261 N1 x2)) ∧ (((G261 N1 x2) = 0 → res = (some (.int (J (-101))), hs E (jm N1))) ∧ (¬ (G261 N1 x2) = 0 → ((R x3) ∧ (((if 0 ≤ x3 ∧ x3 ≤ 1 then (1 : Int) else 0) = 0 → res = (some (.int (J (-102))), hs E (jm N1))) ∧ (¬ (if 0 ≤ x3 ∧ x3 ≤ 1 then (1 : Int) else 0) = 0 → ((0 ≤ x2 ∧ x2 < 8) ∧ (∃ (r2 : Int), Rn 298 [.ref 59, .int (J x1), .int (J ((N1 73) x2))] (hs E (jm N1)) (some (.int (J r2))) (hs E (jm N1)) ∧ ((R r2) ∧ ((r2 ≤ 0 → Ev 5 300 51 [some (.ref 59), some (.int (J x1)), none, some (.int (J x3)), some (.int (J ((N1 73) x2)))] [] (hs E (jm N1)) res) ∧ (¬ r2 ≤ 0 → res = (some (.int (J (-1))), hs E (jm N1))))))))))))))))))) : Ev 5 300 0 [some (.ref 59), some (.int (J x1)), some (.int (J x2)), some (.int (J x3)), none] [] (hs E (jm N)) res := by
  refine w300_0 ?_
  obtain ⟨r1, N1, q8, H⟩ := H
  refine ⟨J r1, jm N1, Rn_to (clx (cai rfl rfl)) rfl rfl q8, ?_⟩
  obtain ⟨q1, H⟩ := H
  refine ⟨fun hc => ?_, fun hc => ?_⟩
  · replace H := H.1 ((eq_J rfl jl_0 q1 (by decide)).mp hc)
    exact H.trans (rt_i jl_m101 rfl)
  · replace H := H.2 (fun hz => hc ((eq_J rfl jl_0 q1 (by decide)).mpr hz))
    obtain ⟨q2, H⟩ := H
    obtain ⟨q3, H⟩ := H
    refine ⟨fun hc => ?_, fun hc => ?_⟩
    · replace H := H.1 ((eq_J ((congr (congrArg F261 rfl) rfl).trans (t261 q2)) jl_0 q3 (by decide)).mp hc)
      exact H.trans (rt_i jl_m101 rfl)
    · replace H := H.2 (fun hz => hc ((eq_J ((congr (congrArg F261 rfl) rfl).trans (t261 q2)) jl_0 q3 (by decide)).mpr hz))
      obtain ⟨q4, H⟩ := H
      refine ⟨fun hc => ?_, fun hc => ?_⟩
      · replace H := H.1 ((eq_J (in_J (congrArg Int32.toInt64 rfl) ll_0 ll_1 q4 (by decide) (by decide)) jl_0 R_in (by decide)).mp hc)
        exact H.trans (rt_i jl_m102 rfl)
      · replace H := H.2 (fun hz => hc ((eq_J (in_J (congrArg Int32.toInt64 rfl) ll_0 ll_1 q4 (by decide) (by decide)) jl_0 R_in (by decide)).mpr hz))
        obtain ⟨q5, H⟩ := H
        refine ⟨inb_J rfl q5 (by decide), ?_⟩
        obtain ⟨r2, q7, H⟩ := H
        refine ⟨J r2, Rn_to (clx (cai rfl (cai (rd_J (jf_base _ _) rfl q5 (by decide)) rfl))) rfl rfl q7, ?_⟩
        obtain ⟨q6, H⟩ := H
        refine ⟨fun hc => ?_, fun hc => ?_⟩
        · replace H := H.1 ((le_J rfl jl_0 q6 (by decide)).mp hc)
          exact Ev_to (clx (cli rfl (clx (cli rfl (cli (rd_J (jf_base _ _) rfl q5 (by decide)) rfl))))) rfl rfl H
        · replace H := H.2 (fun hz => hc ((le_J rfl jl_0 q6 (by decide)).mpr hz))
          exact H.trans (rt_i jl_m1 rfl)
theorem v300_51 {E : gw_N} {N : NM} {res : Option Value × gw_H} {x1 : Int} {x3 : Int} {x4 : Int} (H : ((R x3) ∧ ((x3 = 1 → ((R x4) ∧ (((999 : Int) ≤ x4 → res = (some (.int (J x4)), hs E (jm N))) ∧ (¬ (999 : Int) ≤ x4 → (∃ (r1 : Int), Rn 298 [.ref 59, .int (J x1), .int (J (x4 + 1))] (hs E (jm N)) (some (.int (J r1))) (hs E (jm N)) ∧ ((R r1) ∧ ((r1 = 0 → Ev 5 300 51 [some (.ref 59), some (.int (J x1)), none, some (.int (J x3)), some (.int (J (x4 + 1)))] [] (hs E (jm N)) res) ∧ (¬ r1 = 0 → res = (some (.int (J x4)), hs E (jm N)))))))))) ∧ (¬ x3 = 1 → res = (some (.int (J x4)), hs E (jm N)))))) : Ev 5 300 51 [some (.ref 59), some (.int (J x1)), none, some (.int (J x3)), some (.int (J x4))] [] (hs E (jm N)) res := by
  refine w300_51 ?_
  obtain ⟨q1, H⟩ := H
  refine ⟨fun hc => ?_, fun hc => ?_⟩
  · replace H := H.1 ((eq_J rfl jl_1 q1 (by decide)).mp hc)
    obtain ⟨q2, H⟩ := H
    refine ⟨fun hc => ?_, fun hc => ?_⟩
    · replace H := H.1 ((le_J jl_999 rfl (by decide) q2).mp hc)
      exact H.trans (rt_i rfl rfl)
    · replace H := H.2 (fun hz => hc ((le_J jl_999 rfl (by decide) q2).mpr hz))
      obtain ⟨r1, q4, H⟩ := H
      refine ⟨J r1, Rn_to (clx (cai rfl (cai (add_J rfl jl_1) rfl))) rfl rfl q4, ?_⟩
      obtain ⟨q3, H⟩ := H
      refine ⟨fun hc => ?_, fun hc => ?_⟩
      · replace H := H.1 ((eq_J rfl jl_0 q3 (by decide)).mp hc)
        exact Ev_to (clx (cli rfl (clx (cli rfl (cli (add_J rfl jl_1) rfl))))) rfl rfl H
      · replace H := H.2 (fun hz => hc ((eq_J rfl jl_0 q3 (by decide)).mpr hz))
        exact H.trans (rt_i rfl rfl)
  · replace H := H.2 (fun hz => hc ((eq_J rfl jl_1 q1 (by decide)).mpr hz))
    exact H.trans (rt_i rfl rfl)
-- 19 GlassWires$Glass fireAt (I)I
theorem v19_0 {E : gw_N} {N : NM} {res : Option Value × gw_H} {x1 : Int} (H : Ev 6 19 4 [some (.ref 44), some (.int (J x1)), some (.int (J 0)), some (.int (J 0)), none] [] (hs E (jm N)) res) : Ev 6 19 0 [some (.ref 44), some (.int (J x1)), none, none, none] [] (hs E (jm N)) res := by
  refine w19_0 ?_
  exact Ev_to (clx (cli rfl (cli jl_0 (cli jl_0 (clx rfl))))) rfl rfl H
theorem v19_4 {E : gw_N} {N : NM} {res : Option Value × gw_H} {x1 : Int} {x2 : Int} {x3 : Int} (H : ((R (G40 N)) ∧ ((R x3) ∧ (((G40 N) ≤ x3 → (∃ (N1 : NM), Rn 22 [.ref 44] (hs E (jm N)) none (hs E (jm N1)) ∧ res = (some (.int (J x2)), hs E (jm (upZ N1 44 (updZ (N1 44) 9 (((N1 44) 9) + 1))))))) ∧ (¬ (G40 N) ≤ x3 → Ev 6 19 18 [some (.ref 44), some (.int (J x1)), some (.int (J x2)), some (.int (J x3)), some (.int (J 0))] [] (hs E (jm N)) res))))) : Ev 6 19 4 [some (.ref 44), some (.int (J x1)), some (.int (J x2)), some (.int (J x3)), none] [] (hs E (jm N)) res := by
  refine w19_4 ?_
  obtain ⟨q1, q2, H⟩ := H
  refine ⟨fun hc => ?_, fun hc => ?_⟩
  · replace H := H.1 ((le_J ((congrArg F40 rfl).trans (t40)) rfl q1 q2).mp hc)
    obtain ⟨N1, q3, H⟩ := H
    refine ⟨jm N1, Rn_to (clx rfl) rfl rfl q3, ?_⟩
    exact H.trans (rt_i rfl (jm_up rfl (jf_updk (jf_base _ _) (add_J (fld_J (jf_base _ _)) jl_1))))
  · replace H := H.2 (fun hz => hc ((le_J ((congrArg F40 rfl).trans (t40)) rfl q1 q2).mpr hz))
    exact Ev_to (clx (cli rfl (cli rfl (cli rfl (cli jl_0 rfl))))) rfl rfl H
theorem v19_18 {E : gw_N} {N : NM} {res : Option Value × gw_H} {x1 : Int} {x2 : Int} {x3 : Int} {x4 : Int} (H : ((0 ≤ x3 ∧ x3 < 64) ∧ ((R ((N 45) x3)) ∧ ((R x4) ∧ ((((N 45) x3) ≤ x4 → Ev 6 19 4 [some (.ref 44), some (.int (J x1)), some (.int (J x2)), some (.int (J (x3 + 1))), none] [] (hs E (jm N)) res) ∧ (¬ ((N 45) x3) ≤ x4 → (∃ (r1 : Int) (N1 : NM), Rn 20 [.ref 44, .int (J ((12 * x3) + x4)), .int (J x1)] (hs E (jm N)) (some (.int (J r1))) (hs E (jm N1)) ∧ ((Q206 N1 r1) ∧ (∃ (N2 : NM), Rn 21 [.ref 44, .int (J ((12 * x3) + x4)), .int (J x1)] (hs E (jm N1)) none (hs E (jm N2)) ∧ Ev 6 19 18 [some (.ref 44), some (.int (J x1)), some (.int (J (x2 + (G206 N1 r1)))), some (.int (J x3)), some (.int (J (x4 + 1)))] [] (hs E (jm N2)) res))))))))) : Ev 6 19 18 [some (.ref 44), some (.int (J x1)), some (.int (J x2)), some (.int (J x3)), some (.int (J x4))] [] (hs E (jm N)) res := by
  refine w19_18 ?_
  obtain ⟨q1, H⟩ := H
  refine ⟨inb_J rfl q1 (by decide), ?_⟩
  obtain ⟨q2, q3, H⟩ := H
  refine ⟨fun hc => ?_, fun hc => ?_⟩
  · replace H := H.1 ((le_J (rd_J (jf_base _ _) rfl q1 (by decide)) rfl q2 q3).mp hc)
    exact Ev_to (clx (cli rfl (cli rfl (cli (add_J rfl jl_1) (clx rfl))))) rfl rfl H
  · replace H := H.2 (fun hz => hc ((le_J (rd_J (jf_base _ _) rfl q1 (by decide)) rfl q2 q3).mpr hz))
    obtain ⟨r1, N1, q6, H⟩ := H
    refine ⟨J r1, jm N1, Rn_to (clx (cai (add_J (mul_J jl_12 rfl) rfl) (cai rfl rfl))) rfl rfl q6, ?_⟩
    obtain ⟨q4, H⟩ := H
    obtain ⟨N2, q5, H⟩ := H
    refine ⟨jm N2, Rn_to (clx (cai (add_J (mul_J jl_12 rfl) rfl) (cai rfl rfl))) rfl rfl q5, ?_⟩
    exact Ev_to (clx (cli rfl (cli (add_J rfl ((congr (congrArg F206 rfl) rfl).trans (t206 q4))) (cli rfl (cli (add_J rfl jl_1) rfl))))) rfl rfl H
-- 72 GlassWires$Net isPlace (III)Z
theorem v72_0 {E : gw_N} {N : NM} {res : Option Value × gw_H} {x1 : Int} {x2 : Int} {x3 : Int} (H : ((R x1) ∧ ((x1 = 1 → ((0 ≤ (G48 N x2 x3) ∧ (G48 N x2 x3) < 89) ∧ ((R ((N 25) (G48 N x2 x3))) ∧ ((((N 25) (G48 N x2 x3)) < 2 → res = (some (.int (J 0)), hs E (jm N))) ∧ (¬ ((N 25) (G48 N x2 x3)) < 2 → res = (some (.int (J 1)), hs E (jm N))))))) ∧ (¬ x1 = 1 → ((Q42 N x2 x3) ∧ ((R (G42 N x2 x3)) ∧ (((G42 N x2 x3) = 0 → (∃ (r1 : Int), Rn 73 [.ref 22, .int (J x2), .int (J x3)] (hs E (jm N)) (some (.int (J r1))) (hs E (jm N)) ∧ ((R r1) ∧ ((r1 = 1 → res = (some (.int (J 1)), hs E (jm N))) ∧ (¬ r1 = 1 → res = (some (.int (J 0)), hs E (jm N))))))) ∧ (¬ (G42 N x2 x3) = 0 → res = (some (.int (J 0)), hs E (jm N)))))))))) : Ev 6 72 0 [some (.ref 22), some (.int (J x1)), some (.int (J x2)), some (.int (J x3))] [] (hs E (jm N)) res := by
  refine w72_0 ?_
  obtain ⟨q1, H⟩ := H
  refine ⟨fun hc => ?_, fun hc => ?_⟩
  · replace H := H.1 ((eq_J rfl jl_1 q1 (by decide)).mp hc)
    obtain ⟨q2, H⟩ := H
    refine ⟨inb_J ((congr (congr (congrArg F48 rfl) rfl) rfl).trans (t48)) q2 (by decide), ?_⟩
    obtain ⟨q3, H⟩ := H
    refine ⟨fun hc => ?_, fun hc => ?_⟩
    · replace H := H.1 ((lt_J (rd_J (jf_base _ _) ((congr (congr (congrArg F48 rfl) rfl) rfl).trans (t48)) q2 (by decide)) jl_2 q3 (by decide)).mp hc)
      exact H.trans (rt_i jl_0 rfl)
    · replace H := H.2 (fun hz => hc ((lt_J (rd_J (jf_base _ _) ((congr (congr (congrArg F48 rfl) rfl) rfl).trans (t48)) q2 (by decide)) jl_2 q3 (by decide)).mpr hz))
      exact H.trans (rt_i jl_1 rfl)
  · replace H := H.2 (fun hz => hc ((eq_J rfl jl_1 q1 (by decide)).mpr hz))
    obtain ⟨q4, H⟩ := H
    obtain ⟨q5, H⟩ := H
    refine ⟨fun hc => ?_, fun hc => ?_⟩
    · replace H := H.1 ((eq_J ((congr (congr (congrArg F42 rfl) rfl) rfl).trans (t42 q4)) jl_0 q5 (by decide)).mp hc)
      obtain ⟨r1, q7, H⟩ := H
      refine ⟨J r1, Rn_to (clx (cai rfl (cai rfl rfl))) rfl rfl q7, ?_⟩
      obtain ⟨q6, H⟩ := H
      refine ⟨fun hc => ?_, fun hc => ?_⟩
      · replace H := H.1 ((eq_J rfl jl_1 q6 (by decide)).mp hc)
        exact H.trans (rt_i jl_1 rfl)
      · replace H := H.2 (fun hz => hc ((eq_J rfl jl_1 q6 (by decide)).mpr hz))
        exact H.trans (rt_i jl_0 rfl)
    · replace H := H.2 (fun hz => hc ((eq_J ((congr (congr (congrArg F42 rfl) rfl) rfl).trans (t42 q4)) jl_0 q5 (by decide)).mpr hz))
      exact H.trans (rt_i jl_0 rfl)
-- 76 GlassWires$Net oddPoints (II)I
theorem v76_0 {E : gw_N} {N : NM} {res : Option Value × gw_H} {x1 : Int} {x2 : Int} (H : ((0 ≤ ((updZ (N 31) 0 (G48 N x1 x2)) 0) ∧ ((updZ (N 31) 0 (G48 N x1 x2)) 0) < 89) ∧ Ev 6 76 31 [some (.ref 22), none, none, some (.int (J 0)), some (.int (J 1)), some (.int (J 0)), none, none, none, none] [] (hs E (jm (upZ (upZ N 31 (updZ (N 31) 0 (G48 N x1 x2))) 30 (updZ (N 30) ((updZ (N 31) 0 (G48 N x1 x2)) 0) 1)))) res)) : Ev 6 76 0 [some (.ref 22), some (.int (J x1)), some (.int (J x2)), none, none, none, none, none, none, none] [] (hs E (jm N)) res := by
  refine w76_0 ?_
  refine ⟨inb_J jl_0 (by decide : (0 : Int) ≤ 0 ∧ (0 : Int) < 89) (by decide), ?_⟩
  refine ⟨inb_J jl_0 (by decide : (0 : Int) ≤ 0 ∧ (0 : Int) < 89) (by decide), ?_⟩
  obtain ⟨q1, H⟩ := H
  refine ⟨inb_J (rd_J (jf_upd (jf_base _ _) jl_0 (by decide : (0 : Int) ≤ 0 ∧ (0 : Int) < 89) (by decide) ((congr (congr (congrArg F48 rfl) rfl) rfl).trans (t48))) jl_0 (by decide : (0 : Int) ≤ 0 ∧ (0 : Int) < 89) (by decide)) q1 (by decide), ?_⟩
  exact Ev_to (clx (clx (clx (cli jl_0 (cli jl_1 (cli jl_0 (clx (clx (clx (clx rfl)))))))))) rfl (jm_up (jm_up rfl (jf_upd (jf_base _ _) jl_0 (by decide : (0 : Int) ≤ 0 ∧ (0 : Int) < 89) (by decide) ((congr (congr (congrArg F48 rfl) rfl) rfl).trans (t48)))) (jf_upd (jf_base _ _) (rd_J (jf_upd (jf_base _ _) jl_0 (by decide : (0 : Int) ≤ 0 ∧ (0 : Int) < 89) (by decide) ((congr (congr (congrArg F48 rfl) rfl) rfl).trans (t48))) jl_0 (by decide : (0 : Int) ≤ 0 ∧ (0 : Int) < 89) (by decide)) q1 (by decide) jl_1)) H
theorem v76_31 {E : gw_N} {N : NM} {res : Option Value × gw_H} {x3 : Int} {x4 : Int} {x5 : Int} (H : ((R x4) ∧ ((R x5) ∧ ((x4 ≤ x5 → res = (some (.int (J x3)), hs E (jm N))) ∧ (¬ x4 ≤ x5 → (((89 : Int) ≤ x5 → res = (some (.int (J x3)), hs E (jm N))) ∧ (¬ (89 : Int) ≤ x5 → ((0 ≤ x5 ∧ x5 < 89) ∧ ((Q49 N ((N 31) x5)) ∧ ((Q50 N ((N 31) x5)) ∧ (∃ (r1 : Int), Rn 73 [.ref 22, .int (J (G49 N ((N 31) x5))), .int (J (G50 N ((N 31) x5)))] (hs E (jm N)) (some (.int (J r1))) (hs E (jm N)) ∧ Ev 6 76 85 [some (.ref 22), none, none, some (.int (J (x3 + (zand r1 1)))), some (.int (J x4)), some (.int (J x5)), some (.int (J (G49 N ((N 31) x5)))), some (.int (J (G50 N ((N 31) x5)))), some (.int (J 0)), none] [] (hs E (jm N)) res))))))))))) : Ev 6 76 31 [some (.ref 22), none, none, some (.int (J x3)), some (.int (J x4)), some (.int (J x5)), none, none, none, none] [] (hs E (jm N)) res := by
  refine w76_31 ?_
  obtain ⟨q1, q2, H⟩ := H
  refine ⟨fun hc => ?_, fun hc => ?_⟩
  · replace H := H.1 ((le_J rfl rfl q1 q2).mp hc)
    exact H.trans (rt_i rfl rfl)
  · replace H := H.2 (fun hz => hc ((le_J rfl rfl q1 q2).mpr hz))
    refine ⟨fun hc => ?_, fun hc => ?_⟩
    · replace H := H.1 ((le_J jl_89 rfl (by decide) q2).mp hc)
      exact H.trans (rt_i rfl rfl)
    · replace H := H.2 (fun hz => hc ((le_J jl_89 rfl (by decide) q2).mpr hz))
      obtain ⟨q3, H⟩ := H
      refine ⟨inb_J rfl q3 (by decide), ?_⟩
      obtain ⟨q4, H⟩ := H
      refine ⟨inb_J rfl q3 (by decide), ?_⟩
      obtain ⟨q5, H⟩ := H
      obtain ⟨r1, q6, H⟩ := H
      refine ⟨J r1, Rn_to (clx (cai ((congr (congrArg F49 rfl) (rd_J (jf_base _ _) rfl q3 (by decide))).trans (t49 q4)) (cai ((congr (congrArg F50 rfl) (rd_J (jf_base _ _) rfl q3 (by decide))).trans (t50 q5)) rfl))) rfl rfl q6, ?_⟩
      exact Ev_to (clx (clx (clx (cli (add_J rfl (zand_J rfl jl_1)) (cli rfl (cli rfl (cli ((congr (congrArg F49 rfl) (rd_J (jf_base _ _) rfl q3 (by decide))).trans (t49 q4)) (cli ((congr (congrArg F50 rfl) (rd_J (jf_base _ _) rfl q3 (by decide))).trans (t50 q5)) (cli jl_0 (clx rfl)))))))))) rfl rfl H
theorem v76_85 {E : gw_N} {N : NM} {res : Option Value × gw_H} {x3 : Int} {x4 : Int} {x5 : Int} {x6 : Int} {x7 : Int} {x8 : Int} (H : ((R x8) ∧ (((4 : Int) ≤ x8 → Ev 6 76 31 [some (.ref 22), none, none, some (.int (J x3)), some (.int (J x4)), some (.int (J (x5 + 1))), none, none, none, none] [] (hs E (jm N)) res) ∧ (¬ (4 : Int) ≤ x8 → ((Q53 N x8) ∧ ((Q54 N x8) ∧ ((Q74 N x6 x7 x8) ∧ ((R (G74 N x6 x7 x8)) ∧ (((G74 N x6 x7 x8) = 0 → Ev 6 76 85 [some (.ref 22), none, none, some (.int (J x3)), some (.int (J x4)), some (.int (J x5)), some (.int (J x6)), some (.int (J x7)), some (.int (J (x8 + 1))), none] [] (hs E (jm N)) res) ∧ (¬ (G74 N x6 x7 x8) = 0 → ((0 ≤ (G48 N (x6 + (G53 N x8)) (x7 + (G54 N x8))) ∧ (G48 N (x6 + (G53 N x8)) (x7 + (G54 N x8))) < 89) ∧ ((R ((N 30) (G48 N (x6 + (G53 N x8)) (x7 + (G54 N x8))))) ∧ ((((N 30) (G48 N (x6 + (G53 N x8)) (x7 + (G54 N x8)))) = 0 → ((R x4) ∧ (((89 : Int) ≤ x4 → Ev 6 76 85 [some (.ref 22), none, none, some (.int (J x3)), some (.int (J x4)), some (.int (J x5)), some (.int (J x6)), some (.int (J x7)), some (.int (J (x8 + 1))), none] [] (hs E (jm N)) res) ∧ (¬ (89 : Int) ≤ x4 → ((0 ≤ x4 ∧ x4 < 89) ∧ Ev 6 76 85 [some (.ref 22), none, none, some (.int (J x3)), some (.int (J (x4 + 1))), some (.int (J x5)), some (.int (J x6)), some (.int (J x7)), some (.int (J (x8 + 1))), none] [] (hs E (jm (upZ (upZ N 30 (updZ (N 30) (G48 N (x6 + (G53 N x8)) (x7 + (G54 N x8))) 1)) 31 (updZ (N 31) x4 (G48 N (x6 + (G53 N x8)) (x7 + (G54 N x8))))))) res))))) ∧ (¬ ((N 30) (G48 N (x6 + (G53 N x8)) (x7 + (G54 N x8)))) = 0 → Ev 6 76 85 [some (.ref 22), none, none, some (.int (J x3)), some (.int (J x4)), some (.int (J x5)), some (.int (J x6)), some (.int (J x7)), some (.int (J (x8 + 1))), none] [] (hs E (jm N)) res)))))))))))))) : Ev 6 76 85 [some (.ref 22), none, none, some (.int (J x3)), some (.int (J x4)), some (.int (J x5)), some (.int (J x6)), some (.int (J x7)), some (.int (J x8)), none] [] (hs E (jm N)) res := by
  refine w76_85 ?_
  obtain ⟨q1, H⟩ := H
  refine ⟨fun hc => ?_, fun hc => ?_⟩
  · replace H := H.1 ((le_J jl_4 rfl (by decide) q1).mp hc)
    exact Ev_to (clx (clx (clx (cli rfl (cli rfl (cli (add_J rfl jl_1) (clx (clx (clx (clx rfl)))))))))) rfl rfl H
  · replace H := H.2 (fun hz => hc ((le_J jl_4 rfl (by decide) q1).mpr hz))
    obtain ⟨q2, H⟩ := H
    obtain ⟨q3, H⟩ := H
    obtain ⟨q4, H⟩ := H
    refine ⟨Eq.mpr (congr (congr (congr (congrArg P74 rfl) rfl) rfl) rfl) (p74 q4), ?_⟩
    obtain ⟨q5, H⟩ := H
    refine ⟨fun hc => ?_, fun hc => ?_⟩
    · replace H := H.1 ((eq_J ((congr (congr (congr (congrArg F74 rfl) rfl) rfl) rfl).trans (t74 q4)) jl_0 q5 (by decide)).mp hc)
      exact Ev_to (clx (clx (clx (cli rfl (cli rfl (cli rfl (cli rfl (cli rfl (cli (add_J rfl jl_1) (clx rfl)))))))))) rfl rfl H
    · replace H := H.2 (fun hz => hc ((eq_J ((congr (congr (congr (congrArg F74 rfl) rfl) rfl) rfl).trans (t74 q4)) jl_0 q5 (by decide)).mpr hz))
      obtain ⟨q6, H⟩ := H
      refine ⟨inb_J ((congr (congr (congrArg F48 rfl) (add_J rfl ((congr (congrArg F53 rfl) rfl).trans (t53 q2)))) (add_J rfl ((congr (congrArg F54 rfl) rfl).trans (t54 q3)))).trans (t48)) q6 (by decide), ?_⟩
      obtain ⟨q7, H⟩ := H
      refine ⟨fun hc => ?_, fun hc => ?_⟩
      · replace H := H.1 ((eq_J (rd_J (jf_base _ _) ((congr (congr (congrArg F48 rfl) (add_J rfl ((congr (congrArg F53 rfl) rfl).trans (t53 q2)))) (add_J rfl ((congr (congrArg F54 rfl) rfl).trans (t54 q3)))).trans (t48)) q6 (by decide)) jl_0 q7 (by decide)).mp hc)
        obtain ⟨q8, H⟩ := H
        refine ⟨fun hc => ?_, fun hc => ?_⟩
        · replace H := H.1 ((le_J jl_89 rfl (by decide) q8).mp hc)
          exact Ev_to (clx (clx (clx (cli rfl (cli rfl (cli rfl (cli rfl (cli rfl (cli (add_J rfl jl_1) (clx rfl)))))))))) rfl rfl H
        · replace H := H.2 (fun hz => hc ((le_J jl_89 rfl (by decide) q8).mpr hz))
          refine ⟨inb_J ((congr (congr (congrArg F48 rfl) (add_J rfl ((congr (congrArg F53 rfl) rfl).trans (t53 q2)))) (add_J rfl ((congr (congrArg F54 rfl) rfl).trans (t54 q3)))).trans (t48)) q6 (by decide), ?_⟩
          obtain ⟨q9, H⟩ := H
          refine ⟨inb_J rfl q9 (by decide), ?_⟩
          exact Ev_to (clx (clx (clx (cli rfl (cli (add_J rfl jl_1) (cli rfl (cli rfl (cli rfl (cli (add_J rfl jl_1) (clx rfl)))))))))) rfl (jm_up (jm_up rfl (jf_upd (jf_base _ _) ((congr (congr (congrArg F48 rfl) (add_J rfl ((congr (congrArg F53 rfl) rfl).trans (t53 q2)))) (add_J rfl ((congr (congrArg F54 rfl) rfl).trans (t54 q3)))).trans (t48)) q6 (by decide) jl_1)) (jf_upd (jf_base _ _) rfl q9 (by decide) ((congr (congr (congrArg F48 rfl) (add_J rfl ((congr (congrArg F53 rfl) rfl).trans (t53 q2)))) (add_J rfl ((congr (congrArg F54 rfl) rfl).trans (t54 q3)))).trans (t48)))) H
      · replace H := H.2 (fun hz => hc ((eq_J (rd_J (jf_base _ _) ((congr (congr (congrArg F48 rfl) (add_J rfl ((congr (congrArg F53 rfl) rfl).trans (t53 q2)))) (add_J rfl ((congr (congrArg F54 rfl) rfl).trans (t54 q3)))).trans (t48)) q6 (by decide)) jl_0 q7 (by decide)).mpr hz))
        exact Ev_to (clx (clx (clx (cli rfl (cli rfl (cli rfl (cli rfl (cli rfl (cli (add_J rfl jl_1) (clx rfl)))))))))) rfl rfl H
-- 138 GlassWires$Tension coolingSteps (I)I
theorem v138_0 {E : gw_N} {N : NM} {res : Option Value × gw_H} {x1 : Int} (H : ((R x1) ∧ ((x1 = 0 → res = (some (.int (J 0)), hs E (jm N))) ∧ (¬ x1 = 0 → (∃ (r1 : Int), Rn 137 [.ref 53, .int (J x1)] (hs E (jm N)) (some (.int (J r1))) (hs E (jm N)) ∧ ((R r1) ∧ ((r1 ≤ 0 → res = (some (.int (J (-1))), hs E (jm N))) ∧ (¬ r1 ≤ 0 → ((0 < r1) ∧ ((R ((x1 + r1) - 1)) ∧ res = (some (.int (J (Int.tdiv ((x1 + r1) - 1) r1))), hs E (jm N)))))))))))) : Ev 6 138 0 [some (.ref 53), some (.int (J x1)), none] [] (hs E (jm N)) res := by
  refine w138_0 ?_
  obtain ⟨q1, H⟩ := H
  refine ⟨fun hc => ?_, fun hc => ?_⟩
  · replace H := H.1 ((eq_J rfl jl_0 q1 (by decide)).mp hc)
    exact H.trans (rt_i jl_0 rfl)
  · replace H := H.2 (fun hz => hc ((eq_J rfl jl_0 q1 (by decide)).mpr hz))
    obtain ⟨r1, q5, H⟩ := H
    refine ⟨J r1, Rn_to (clx (cai rfl rfl)) rfl rfl q5, ?_⟩
    obtain ⟨q2, H⟩ := H
    refine ⟨fun hc => ?_, fun hc => ?_⟩
    · replace H := H.1 ((le_J rfl jl_0 q2 (by decide)).mp hc)
      exact H.trans (rt_i jl_m1 rfl)
    · replace H := H.2 (fun hz => hc ((le_J rfl jl_0 q2 (by decide)).mpr hz))
      obtain ⟨q3, H⟩ := H
      refine ⟨nz_J rfl q2 q3, ?_⟩
      obtain ⟨q4, H⟩ := H
      exact H.trans (rt_i (div_J (sub_J (add_J rfl rfl) jl_1) rfl q4 q2 q3) rfl)
-- 186 GlassWires state (I)I
theorem v186_0 {E : gw_N} {N : NM} {res : Option Value × gw_H} {x1 : Int} (H : ((R x1) ∧ ((x1 = 0 → (∃ (r1 : Int), Rn 26 [.ref 44, .int (J 0)] (hs E (jm N)) (some (.int (J r1))) (hs E (jm N)) ∧ res = (some (.int (J r1)), hs E (jm N)))) ∧ (x1 = 1 → (∃ (r2 : Int), Rn 26 [.ref 44, .int (J 1)] (hs E (jm N)) (some (.int (J r2))) (hs E (jm N)) ∧ res = (some (.int (J r2)), hs E (jm N)))) ∧ (x1 = 2 → (∃ (r3 : Int), Rn 26 [.ref 44, .int (J 2)] (hs E (jm N)) (some (.int (J r3))) (hs E (jm N)) ∧ res = (some (.int (J r3)), hs E (jm N)))) ∧ (x1 = 3 → (∃ (r4 : Int), Rn 27 [.ref 44] (hs E (jm N)) (some (.int (J r4))) (hs E (jm N)) ∧ res = (some (.int (J r4)), hs E (jm N)))) ∧ (x1 = 4 → (∃ (r5 : Int), Rn 28 [.ref 44] (hs E (jm N)) (some (.int (J r5))) (hs E (jm N)) ∧ res = (some (.int (J r5)), hs E (jm N)))) ∧ (x1 = 5 → res = (some (.int (J (G10 N))), hs E (jm N))) ∧ (¬ x1 = 0 → ¬ x1 = 1 → ¬ x1 = 2 → ¬ x1 = 3 → ¬ x1 = 4 → ¬ x1 = 5 → res = (some (.int (J (-102))), hs E (jm N)))))) : Ev 6 186 0 [some (.ref 8), some (.int (J x1))] [] (hs E (jm N)) res := by
  refine w186_0 ?_
  obtain ⟨q1, H⟩ := H
  refine ⟨fun hc => ?_, fun hc => ?_, fun hc => ?_, fun hc => ?_, fun hc => ?_, fun hc => ?_, fun hc0 hc1 hc2 hc3 hc4 hc5 => ?_⟩
  · replace H := (H.1) ((eq_J rfl jl_0 q1 (by decide)).mp hc)
    obtain ⟨r1, q2, H⟩ := H
    refine ⟨J r1, Rn_to (clx (cai jl_0 rfl)) rfl rfl q2, ?_⟩
    exact H.trans (rt_i rfl rfl)
  · replace H := (H.2.1) ((eq_J rfl jl_1 q1 (by decide)).mp hc)
    obtain ⟨r2, q3, H⟩ := H
    refine ⟨J r2, Rn_to (clx (cai jl_1 rfl)) rfl rfl q3, ?_⟩
    exact H.trans (rt_i rfl rfl)
  · replace H := (H.2.2.1) ((eq_J rfl jl_2 q1 (by decide)).mp hc)
    obtain ⟨r3, q4, H⟩ := H
    refine ⟨J r3, Rn_to (clx (cai jl_2 rfl)) rfl rfl q4, ?_⟩
    exact H.trans (rt_i rfl rfl)
  · replace H := (H.2.2.2.1) ((eq_J rfl jl_3 q1 (by decide)).mp hc)
    obtain ⟨r4, q5, H⟩ := H
    refine ⟨J r4, Rn_to (clx rfl) rfl rfl q5, ?_⟩
    exact H.trans (rt_i rfl rfl)
  · replace H := (H.2.2.2.2.1) ((eq_J rfl jl_4 q1 (by decide)).mp hc)
    obtain ⟨r5, q6, H⟩ := H
    refine ⟨J r5, Rn_to (clx rfl) rfl rfl q6, ?_⟩
    exact H.trans (rt_i rfl rfl)
  · replace H := (H.2.2.2.2.2.1) ((eq_J rfl jl_5 q1 (by decide)).mp hc)
    exact H.trans (rt_i ((congrArg F10 rfl).trans (t10)) rfl)
  · replace H := (H.2.2.2.2.2.2) (fun hz => hc0 ((eq_J rfl jl_0 q1 (by decide)).mpr hz)) (fun hz => hc1 ((eq_J rfl jl_1 q1 (by decide)).mpr hz)) (fun hz => hc2 ((eq_J rfl jl_2 q1 (by decide)).mpr hz)) (fun hz => hc3 ((eq_J rfl jl_3 q1 (by decide)).mpr hz)) (fun hz => hc4 ((eq_J rfl jl_4 q1 (by decide)).mpr hz)) (fun hz => hc5 ((eq_J rfl jl_5 q1 (by decide)).mpr hz))
    exact H.trans (rt_i jl_m102 rfl)
-- 192 GlassWires bow (I)I
theorem v192_0 {E : gw_N} {N : NM} {res : Option Value × gw_H} {x1 : Int} (H : ((R x1) ∧ ((x1 = 0 → (∃ (r1 : Int), Rn 132 [.ref 53] (hs E (jm N)) (some (.int (J r1))) (hs E (jm N)) ∧ res = (some (.int (J r1)), hs E (jm N)))) ∧ (x1 = 1 → (∃ (r2 : Int), Rn 134 [.ref 53] (hs E (jm N)) (some (.int (J r2))) (hs E (jm N)) ∧ res = (some (.int (J r2)), hs E (jm N)))) ∧ (¬ x1 = 0 → ¬ x1 = 1 → res = (some (.int (J (-1000001))), hs E (jm N)))))) : Ev 6 192 0 [some (.ref 8), some (.int (J x1))] [] (hs E (jm N)) res := by
  refine w192_0 ?_
  obtain ⟨q1, H⟩ := H
  refine ⟨fun hc => ?_, fun hc => ?_, fun hc0 hc1 => ?_⟩
  · replace H := (H.1) ((eq_J rfl jl_0 q1 (by decide)).mp hc)
    obtain ⟨r1, q2, H⟩ := H
    refine ⟨J r1, Rn_to (clx rfl) rfl rfl q2, ?_⟩
    exact H.trans (rt_i rfl rfl)
  · replace H := (H.2.1) ((eq_J rfl jl_1 q1 (by decide)).mp hc)
    obtain ⟨r2, q3, H⟩ := H
    refine ⟨J r2, Rn_to (clx rfl) rfl rfl q3, ?_⟩
    exact H.trans (rt_i rfl rfl)
  · replace H := (H.2.2) (fun hz => hc0 ((eq_J rfl jl_0 q1 (by decide)).mpr hz)) (fun hz => hc1 ((eq_J rfl jl_1 q1 (by decide)).mpr hz))
    exact H.trans (rt_i jl_m1000001 rfl)
-- 194 GlassWires strain (II)I
theorem v194_0 {E : gw_N} {N : NM} {res : Option Value × gw_H} {x1 : Int} {x2 : Int} (H : ((Q205 N x1) ∧ ((R (G205 N x1)) ∧ (((G205 N x1) = 0 → res = (some (.int (J (-102))), hs E (jm N))) ∧ (¬ (G205 N x1) = 0 → ((Q205 N x2) ∧ ((R (G205 N x2)) ∧ (((G205 N x2) = 0 → res = (some (.int (J (-102))), hs E (jm N))) ∧ (¬ (G205 N x2) = 0 → ((R x1) ∧ ((R x2) ∧ ((x1 < x2 → res = (some (.int (J (-102))), hs E (jm N))) ∧ (¬ x1 < x2 → (∃ (r1 : Int), Rn 136 [.ref 53, .int (J (x1 - x2))] (hs E (jm N)) (some (.int (J r1))) (hs E (jm N)) ∧ res = (some (.int (J r1)), hs E (jm N)))))))))))))))) : Ev 6 194 0 [some (.ref 8), some (.int (J x1)), some (.int (J x2))] [] (hs E (jm N)) res := by
  refine w194_0 ?_
  obtain ⟨q1, H⟩ := H
  obtain ⟨q2, H⟩ := H
  refine ⟨fun hc => ?_, fun hc => ?_⟩
  · replace H := H.1 ((eq_J ((congr (congrArg F205 rfl) rfl).trans (t205 q1)) jl_0 q2 (by decide)).mp hc)
    exact H.trans (rt_i jl_m102 rfl)
  · replace H := H.2 (fun hz => hc ((eq_J ((congr (congrArg F205 rfl) rfl).trans (t205 q1)) jl_0 q2 (by decide)).mpr hz))
    obtain ⟨q3, H⟩ := H
    obtain ⟨q4, H⟩ := H
    refine ⟨fun hc => ?_, fun hc => ?_⟩
    · replace H := H.1 ((eq_J ((congr (congrArg F205 rfl) rfl).trans (t205 q3)) jl_0 q4 (by decide)).mp hc)
      exact H.trans (rt_i jl_m102 rfl)
    · replace H := H.2 (fun hz => hc ((eq_J ((congr (congrArg F205 rfl) rfl).trans (t205 q3)) jl_0 q4 (by decide)).mpr hz))
      obtain ⟨q5, q6, H⟩ := H
      refine ⟨fun hc => ?_, fun hc => ?_⟩
      · replace H := H.1 ((lt_J rfl rfl q5 q6).mp hc)
        exact H.trans (rt_i jl_m102 rfl)
      · replace H := H.2 (fun hz => hc ((lt_J rfl rfl q5 q6).mpr hz))
        obtain ⟨r1, q7, H⟩ := H
        refine ⟨J r1, Rn_to (clx (cai (sub_J rfl rfl) rfl)) rfl rfl q7, ?_⟩
        exact H.trans (rt_i rfl rfl)
-- 200 GlassWires cut (I)I
theorem v200_0 {E : gw_N} {N : NM} {res : Option Value × gw_H} {x1 : Int} (H : ((R x1) ∧ ((x1 = 0 → (∃ (r1 : Int), Rn 155 [.ref 14] (hs E (jm N)) (some (.int (J r1))) (hs E (jm N)) ∧ ((R r1) ∧ ((r1 ≤ 8 → ((x1 = 0 → (∃ (r2 : Int) (N2 : NM), Rn 121 [.ref 54, .ref 14] (hs E (jm N)) (some (.int (J r2))) (hs E (jm N2)) ∧ res = (some (.int (J r2)), hs E (jm N2)))) ∧ (¬ x1 = 0 → (∃ (r3 : Int) (N3 : NM), Rn 122 [.ref 54, .ref 14] (hs E (jm N)) (some (.int (J r3))) (hs E (jm N3)) ∧ res = (some (.int (J r3)), hs E (jm N3)))))) ∧ (¬ r1 ≤ 8 → res = (some (.int (J (-103))), hs E (jm N))))))) ∧ (¬ x1 = 0 → ((x1 = 1 → (∃ (r4 : Int), Rn 155 [.ref 14] (hs E (jm N)) (some (.int (J r4))) (hs E (jm N)) ∧ ((R r4) ∧ ((r4 ≤ 8 → ((x1 = 0 → (∃ (r5 : Int) (N5 : NM), Rn 121 [.ref 54, .ref 14] (hs E (jm N)) (some (.int (J r5))) (hs E (jm N5)) ∧ res = (some (.int (J r5)), hs E (jm N5)))) ∧ (¬ x1 = 0 → (∃ (r6 : Int) (N6 : NM), Rn 122 [.ref 54, .ref 14] (hs E (jm N)) (some (.int (J r6))) (hs E (jm N6)) ∧ res = (some (.int (J r6)), hs E (jm N6)))))) ∧ (¬ r4 ≤ 8 → res = (some (.int (J (-103))), hs E (jm N))))))) ∧ (¬ x1 = 1 → res = (some (.int (J (-102))), hs E (jm N)))))))) : Ev 6 200 0 [some (.ref 8), some (.int (J x1))] [] (hs E (jm N)) res := by
  refine w200_0 ?_
  obtain ⟨q1, H⟩ := H
  refine ⟨fun hc => ?_, fun hc => ?_⟩
  · replace H := H.1 ((eq_J rfl jl_0 q1 (by decide)).mp hc)
    obtain ⟨r1, q5, H⟩ := H
    refine ⟨J r1, Rn_to (clx rfl) rfl rfl q5, ?_⟩
    obtain ⟨q2, H⟩ := H
    refine ⟨fun hc => ?_, fun hc => ?_⟩
    · replace H := H.1 ((le_J rfl jl_8 q2 (by decide)).mp hc)
      refine ⟨fun hc => ?_, fun hc => ?_⟩
      · replace H := H.1 ((eq_J rfl jl_0 q1 (by decide)).mp hc)
        obtain ⟨r2, N2, q3, H⟩ := H
        refine ⟨J r2, jm N2, Rn_to (clx (clx rfl)) rfl rfl q3, ?_⟩
        exact H.trans (rt_i rfl rfl)
      · replace H := H.2 (fun hz => hc ((eq_J rfl jl_0 q1 (by decide)).mpr hz))
        obtain ⟨r3, N3, q4, H⟩ := H
        refine ⟨J r3, jm N3, Rn_to (clx (clx rfl)) rfl rfl q4, ?_⟩
        exact H.trans (rt_i rfl rfl)
    · replace H := H.2 (fun hz => hc ((le_J rfl jl_8 q2 (by decide)).mpr hz))
      exact H.trans (rt_i jl_m103 rfl)
  · replace H := H.2 (fun hz => hc ((eq_J rfl jl_0 q1 (by decide)).mpr hz))
    refine ⟨fun hc => ?_, fun hc => ?_⟩
    · replace H := H.1 ((eq_J rfl jl_1 q1 (by decide)).mp hc)
      obtain ⟨r4, q9, H⟩ := H
      refine ⟨J r4, Rn_to (clx rfl) rfl rfl q9, ?_⟩
      obtain ⟨q6, H⟩ := H
      refine ⟨fun hc => ?_, fun hc => ?_⟩
      · replace H := H.1 ((le_J rfl jl_8 q6 (by decide)).mp hc)
        refine ⟨fun hc => ?_, fun hc => ?_⟩
        · replace H := H.1 ((eq_J rfl jl_0 q1 (by decide)).mp hc)
          obtain ⟨r5, N5, q7, H⟩ := H
          refine ⟨J r5, jm N5, Rn_to (clx (clx rfl)) rfl rfl q7, ?_⟩
          exact H.trans (rt_i rfl rfl)
        · replace H := H.2 (fun hz => hc ((eq_J rfl jl_0 q1 (by decide)).mpr hz))
          obtain ⟨r6, N6, q8, H⟩ := H
          refine ⟨J r6, jm N6, Rn_to (clx (clx rfl)) rfl rfl q8, ?_⟩
          exact H.trans (rt_i rfl rfl)
      · replace H := H.2 (fun hz => hc ((le_J rfl jl_8 q6 (by decide)).mpr hz))
        exact H.trans (rt_i jl_m103 rfl)
    · replace H := H.2 (fun hz => hc ((eq_J rfl jl_1 q1 (by decide)).mpr hz))
      exact H.trans (rt_i jl_m102 rfl)
-- 203 GlassWires renew ()V
theorem v203_0 {E : gw_N} {N : NM} {res : Option Value × gw_H}  (H : (∃ (N1 : NM), Rn 57 [.ref 22] (hs E (jm N)) none (hs E (jm N1)) ∧ (∃ (N2 : NM), Rn 1 [.ref 32] (hs E (jm N1)) none (hs E (jm N2)) ∧ res = (none, hs E (jm N2))))) : Ev 6 203 0 [some (.ref 8)] [] (hs E (jm N)) res := by
  refine w203_0 ?_
  obtain ⟨N1, q2, H⟩ := H
  refine ⟨jm N1, Rn_to (clx rfl) rfl rfl q2, ?_⟩
  obtain ⟨N2, q1, H⟩ := H
  refine ⟨jm N2, Rn_to (clx rfl) rfl rfl q1, ?_⟩
  exact H.trans (rt_n rfl)
-- 250 GlassWiresModel many (I)I
theorem v250_0 {E : gw_N} {N : NM} {res : Option Value × gw_H} {x1 : Int} (H : (∃ (N1 : NM), Rn 247 [.ref 59] (hs E (jm N)) none (hs E (jm N1)) ∧ (∃ (N2 : NM), Rn 230 [.ref 59] (hs E (jm N1)) none (hs E (jm N2)) ∧ ((R x1) ∧ ((x1 = 0 → Ev 6 250 58 [some (.ref 59), some (.int (J x1)), some (.int (J 0)), some (.int (J 0)), none] [] (hs E (jm N2)) res) ∧ (x1 = 1 → Ev 6 250 58 [some (.ref 59), some (.int (J x1)), some (.int (J 0)), some (.int (J 0)), none] [] (hs E (jm N2)) res) ∧ (x1 = 2 → Ev 6 250 146 [some (.ref 59), some (.int (J x1)), some (.int (J 0)), some (.int (J 0)), none] [] (hs E (jm N2)) res) ∧ (x1 = 3 → Ev 6 250 190 [some (.ref 59), none, some (.int (J 0)), some (.int (J 0)), none] [] (hs E (jm N2)) res) ∧ (x1 = 4 → Ev 6 250 146 [some (.ref 59), some (.int (J x1)), some (.int (J 0)), some (.int (J 0)), none] [] (hs E (jm N2)) res) ∧ (x1 = 5 → (∃ (r3 : Int) (N3 : NM), Rn 242 [.ref 59] (hs E (jm N2)) (some (.int (J r3))) (hs E (jm N3)) ∧ res = (some (.int (J r3)), hs E (jm N3)))) ∧ (x1 = 6 → Ev 6 250 239 [some (.ref 59), none, some (.int (J 0)), some (.int (J 0)), none] [] (hs E (jm N2)) res) ∧ (x1 = 7 → Ev 6 250 275 [some (.ref 59), none, some (.int (J 0)), some (.int (J 0)), none] [] (hs E (jm N2)) res) ∧ (¬ x1 = 0 → ¬ x1 = 1 → ¬ x1 = 2 → ¬ x1 = 3 → ¬ x1 = 4 → ¬ x1 = 5 → ¬ x1 = 6 → ¬ x1 = 7 → res = (some (.int (J (-102))), hs E (jm N2)))))))) : Ev 6 250 0 [some (.ref 59), some (.int (J x1)), none, none, none] [] (hs E (jm N)) res := by
  refine w250_0 ?_
  obtain ⟨N1, q4, H⟩ := H
  refine ⟨jm N1, Rn_to (clx rfl) rfl rfl q4, ?_⟩
  obtain ⟨N2, q3, H⟩ := H
  refine ⟨jm N2, Rn_to (clx rfl) rfl rfl q3, ?_⟩
  obtain ⟨q1, H⟩ := H
  refine ⟨fun hc => ?_, fun hc => ?_, fun hc => ?_, fun hc => ?_, fun hc => ?_, fun hc => ?_, fun hc => ?_, fun hc => ?_, fun hc0 hc1 hc2 hc3 hc4 hc5 hc6 hc7 => ?_⟩
  · replace H := (H.1) ((eq_J rfl jl_0 q1 (by decide)).mp hc)
    exact Ev_to (clx (cli rfl (cli jl_0 (cli jl_0 (clx rfl))))) rfl rfl H
  · replace H := (H.2.1) ((eq_J rfl jl_1 q1 (by decide)).mp hc)
    exact Ev_to (clx (cli rfl (cli jl_0 (cli jl_0 (clx rfl))))) rfl rfl H
  · replace H := (H.2.2.1) ((eq_J rfl jl_2 q1 (by decide)).mp hc)
    exact Ev_to (clx (cli rfl (cli jl_0 (cli jl_0 (clx rfl))))) rfl rfl H
  · replace H := (H.2.2.2.1) ((eq_J rfl jl_3 q1 (by decide)).mp hc)
    exact Ev_to (clx (clx (cli jl_0 (cli jl_0 (clx rfl))))) rfl rfl H
  · replace H := (H.2.2.2.2.1) ((eq_J rfl jl_4 q1 (by decide)).mp hc)
    exact Ev_to (clx (cli rfl (cli jl_0 (cli jl_0 (clx rfl))))) rfl rfl H
  · replace H := (H.2.2.2.2.2.1) ((eq_J rfl jl_5 q1 (by decide)).mp hc)
    obtain ⟨r3, N3, q2, H⟩ := H
    refine ⟨J r3, jm N3, Rn_to (clx rfl) rfl rfl q2, ?_⟩
    exact H.trans (rt_i rfl rfl)
  · replace H := (H.2.2.2.2.2.2.1) ((eq_J rfl jl_6 q1 (by decide)).mp hc)
    exact Ev_to (clx (clx (cli jl_0 (cli jl_0 (clx rfl))))) rfl rfl H
  · replace H := (H.2.2.2.2.2.2.2.1) ((eq_J rfl jl_7 q1 (by decide)).mp hc)
    exact Ev_to (clx (clx (cli jl_0 (cli jl_0 (clx rfl))))) rfl rfl H
  · replace H := (H.2.2.2.2.2.2.2.2) (fun hz => hc0 ((eq_J rfl jl_0 q1 (by decide)).mpr hz)) (fun hz => hc1 ((eq_J rfl jl_1 q1 (by decide)).mpr hz)) (fun hz => hc2 ((eq_J rfl jl_2 q1 (by decide)).mpr hz)) (fun hz => hc3 ((eq_J rfl jl_3 q1 (by decide)).mpr hz)) (fun hz => hc4 ((eq_J rfl jl_4 q1 (by decide)).mpr hz)) (fun hz => hc5 ((eq_J rfl jl_5 q1 (by decide)).mpr hz)) (fun hz => hc6 ((eq_J rfl jl_6 q1 (by decide)).mpr hz)) (fun hz => hc7 ((eq_J rfl jl_7 q1 (by decide)).mpr hz))
    exact H.trans (rt_i jl_m102 rfl)
theorem v250_58 {E : gw_N} {N : NM} {res : Option Value × gw_H} {x1 : Int} {x2 : Int} {x3 : Int} (H : ((R x3) ∧ (((81 : Int) ≤ x3 → res = (some (.int (J x2)), hs E (jm N))) ∧ (¬ (81 : Int) ≤ x3 → ((Q214 N (Int.tmod x3 9) (Int.tdiv x3 9)) ∧ ((R (G214 N (Int.tmod x3 9) (Int.tdiv x3 9))) ∧ (((G214 N (Int.tmod x3 9) (Int.tdiv x3 9)) = 0 → Ev 6 250 58 [some (.ref 59), some (.int (J x1)), some (.int (J (x2 + 0))), some (.int (J (x3 + 1))), none] [] (hs E (jm N)) res) ∧ (¬ (G214 N (Int.tmod x3 9) (Int.tdiv x3 9)) = 0 → ((R x1) ∧ ((x1 = 0 → ((Q240 N (Int.tmod x3 9) (Int.tdiv x3 9)) ∧ ((R (G240 N (Int.tmod x3 9) (Int.tdiv x3 9))) ∧ (((G240 N (Int.tmod x3 9) (Int.tdiv x3 9)) = 0 → Ev 6 250 58 [some (.ref 59), some (.int (J x1)), some (.int (J (x2 + 0))), some (.int (J (x3 + 1))), none] [] (hs E (jm N)) res) ∧ (¬ (G240 N (Int.tmod x3 9) (Int.tdiv x3 9)) = 0 → Ev 6 250 58 [some (.ref 59), some (.int (J x1)), some (.int (J (x2 + 1))), some (.int (J (x3 + 1))), none] [] (hs E (jm N)) res))))) ∧ (¬ x1 = 0 → (∃ (r1 : Int), Rn 241 [.ref 59, .int (J (Int.tmod x3 9)), .int (J (Int.tdiv x3 9))] (hs E (jm N)) (some (.int (J r1))) (hs E (jm N)) ∧ ((R r1) ∧ ((r1 = 0 → Ev 6 250 58 [some (.ref 59), some (.int (J x1)), some (.int (J (x2 + 0))), some (.int (J (x3 + 1))), none] [] (hs E (jm N)) res) ∧ (¬ r1 = 0 → Ev 6 250 58 [some (.ref 59), some (.int (J x1)), some (.int (J (x2 + 1))), some (.int (J (x3 + 1))), none] [] (hs E (jm N)) res))))))))))))))) : Ev 6 250 58 [some (.ref 59), some (.int (J x1)), some (.int (J x2)), some (.int (J x3)), none] [] (hs E (jm N)) res := by
  refine w250_58 ?_
  obtain ⟨q1, H⟩ := H
  refine ⟨fun hc => ?_, fun hc => ?_⟩
  · replace H := H.1 ((le_J jl_81 rfl (by decide) q1).mp hc)
    exact H.trans (rt_i rfl rfl)
  · replace H := H.2 (fun hz => hc ((le_J jl_81 rfl (by decide) q1).mpr hz))
    obtain ⟨q2, H⟩ := H
    obtain ⟨q3, H⟩ := H
    refine ⟨fun hc => ?_, fun hc => ?_⟩
    · replace H := H.1 ((eq_J ((congr (congr (congrArg F214 rfl) (rem_J rfl jl_9 q1 (by decide) (by decide))) (div_J rfl jl_9 q1 (by decide) (by decide))).trans (t214 q2)) jl_0 q3 (by decide)).mp hc)
      exact Ev_to (clx (cli rfl (cli (add_J rfl jl_0) (cli (add_J rfl jl_1) (clx rfl))))) rfl rfl H
    · replace H := H.2 (fun hz => hc ((eq_J ((congr (congr (congrArg F214 rfl) (rem_J rfl jl_9 q1 (by decide) (by decide))) (div_J rfl jl_9 q1 (by decide) (by decide))).trans (t214 q2)) jl_0 q3 (by decide)).mpr hz))
      obtain ⟨q4, H⟩ := H
      refine ⟨fun hc => ?_, fun hc => ?_⟩
      · replace H := H.1 ((eq_J rfl jl_0 q4 (by decide)).mp hc)
        obtain ⟨q5, H⟩ := H
        refine ⟨Eq.mpr (congr (congr (congrArg P240 rfl) (rem_J rfl jl_9 q1 (by decide) (by decide))) (div_J rfl jl_9 q1 (by decide) (by decide))) (p240 q5), ?_⟩
        obtain ⟨q6, H⟩ := H
        refine ⟨fun hc => ?_, fun hc => ?_⟩
        · replace H := H.1 ((eq_J ((congr (congr (congrArg F240 rfl) (rem_J rfl jl_9 q1 (by decide) (by decide))) (div_J rfl jl_9 q1 (by decide) (by decide))).trans (t240 q5)) jl_0 q6 (by decide)).mp hc)
          exact Ev_to (clx (cli rfl (cli (add_J rfl jl_0) (cli (add_J rfl jl_1) (clx rfl))))) rfl rfl H
        · replace H := H.2 (fun hz => hc ((eq_J ((congr (congr (congrArg F240 rfl) (rem_J rfl jl_9 q1 (by decide) (by decide))) (div_J rfl jl_9 q1 (by decide) (by decide))).trans (t240 q5)) jl_0 q6 (by decide)).mpr hz))
          exact Ev_to (clx (cli rfl (cli (add_J rfl jl_1) (cli (add_J rfl jl_1) (clx rfl))))) rfl rfl H
      · replace H := H.2 (fun hz => hc ((eq_J rfl jl_0 q4 (by decide)).mpr hz))
        obtain ⟨r1, q8, H⟩ := H
        refine ⟨J r1, Rn_to (clx (cai (rem_J rfl jl_9 q1 (by decide) (by decide)) (cai (div_J rfl jl_9 q1 (by decide) (by decide)) rfl))) rfl rfl q8, ?_⟩
        obtain ⟨q7, H⟩ := H
        refine ⟨fun hc => ?_, fun hc => ?_⟩
        · replace H := H.1 ((eq_J rfl jl_0 q7 (by decide)).mp hc)
          exact Ev_to (clx (cli rfl (cli (add_J rfl jl_0) (cli (add_J rfl jl_1) (clx rfl))))) rfl rfl H
        · replace H := H.2 (fun hz => hc ((eq_J rfl jl_0 q7 (by decide)).mpr hz))
          exact Ev_to (clx (cli rfl (cli (add_J rfl jl_1) (cli (add_J rfl jl_1) (clx rfl))))) rfl rfl H
theorem v250_146 {E : gw_N} {N : NM} {res : Option Value × gw_H} {x1 : Int} {x2 : Int} {x3 : Int} (H : ((R x3) ∧ (((162 : Int) ≤ x3 → res = (some (.int (J x2)), hs E (jm N))) ∧ (¬ (162 : Int) ≤ x3 → ((0 ≤ x3 ∧ x3 < 162) ∧ ((R x1) ∧ ((x1 = 2 → ((R ((N 67) x3)) ∧ ((((N 67) x3) ≤ 1 → Ev 6 250 146 [some (.ref 59), some (.int (J x1)), some (.int (J (x2 + 0))), some (.int (J (x3 + 1))), none] [] (hs E (jm N)) res) ∧ (¬ ((N 67) x3) ≤ 1 → Ev 6 250 146 [some (.ref 59), some (.int (J x1)), some (.int (J (x2 + 1))), some (.int (J (x3 + 1))), none] [] (hs E (jm N)) res)))) ∧ (¬ x1 = 2 → ((R ((N 67) x3)) ∧ ((((N 67) x3) ≤ 0 → Ev 6 250 146 [some (.ref 59), some (.int (J x1)), some (.int (J (x2 + 0))), some (.int (J (x3 + 1))), none] [] (hs E (jm N)) res) ∧ (¬ ((N 67) x3) ≤ 0 → Ev 6 250 146 [some (.ref 59), some (.int (J x1)), some (.int (J (x2 + 1))), some (.int (J (x3 + 1))), none] [] (hs E (jm N)) res))))))))))) : Ev 6 250 146 [some (.ref 59), some (.int (J x1)), some (.int (J x2)), some (.int (J x3)), none] [] (hs E (jm N)) res := by
  refine w250_146 ?_
  obtain ⟨q1, H⟩ := H
  refine ⟨fun hc => ?_, fun hc => ?_⟩
  · replace H := H.1 ((le_J jl_162 rfl (by decide) q1).mp hc)
    exact H.trans (rt_i rfl rfl)
  · replace H := H.2 (fun hz => hc ((le_J jl_162 rfl (by decide) q1).mpr hz))
    obtain ⟨q2, H⟩ := H
    refine ⟨inb_J rfl q2 (by decide), ?_⟩
    obtain ⟨q3, H⟩ := H
    refine ⟨fun hc => ?_, fun hc => ?_⟩
    · replace H := H.1 ((eq_J rfl jl_2 q3 (by decide)).mp hc)
      obtain ⟨q4, H⟩ := H
      refine ⟨fun hc => ?_, fun hc => ?_⟩
      · replace H := H.1 ((le_J (rd_J (jf_base _ _) rfl q2 (by decide)) jl_1 q4 (by decide)).mp hc)
        exact Ev_to (clx (cli rfl (cli (add_J rfl jl_0) (cli (add_J rfl jl_1) (clx rfl))))) rfl rfl H
      · replace H := H.2 (fun hz => hc ((le_J (rd_J (jf_base _ _) rfl q2 (by decide)) jl_1 q4 (by decide)).mpr hz))
        exact Ev_to (clx (cli rfl (cli (add_J rfl jl_1) (cli (add_J rfl jl_1) (clx rfl))))) rfl rfl H
    · replace H := H.2 (fun hz => hc ((eq_J rfl jl_2 q3 (by decide)).mpr hz))
      obtain ⟨q5, H⟩ := H
      refine ⟨fun hc => ?_, fun hc => ?_⟩
      · replace H := H.1 ((le_J (rd_J (jf_base _ _) rfl q2 (by decide)) jl_0 q5 (by decide)).mp hc)
        exact Ev_to (clx (cli rfl (cli (add_J rfl jl_0) (cli (add_J rfl jl_1) (clx rfl))))) rfl rfl H
      · replace H := H.2 (fun hz => hc ((le_J (rd_J (jf_base _ _) rfl q2 (by decide)) jl_0 q5 (by decide)).mpr hz))
        exact Ev_to (clx (cli rfl (cli (add_J rfl jl_1) (cli (add_J rfl jl_1) (clx rfl))))) rfl rfl H
theorem v250_190 {E : gw_N} {N : NM} {res : Option Value × gw_H} {x2 : Int} {x3 : Int} (H : ((R ((N 59) 4)) ∧ ((R x3) ∧ ((((N 59) 4) ≤ x3 → res = (some (.int (J x2)), hs E (jm N))) ∧ (¬ ((N 59) 4) ≤ x3 → ((0 ≤ x3 ∧ x3 < 30) ∧ ((R ((N 64) x3)) ∧ ((((N 64) x3) = 0 → Ev 6 250 190 [some (.ref 59), none, some (.int (J (x2 + 0))), some (.int (J (x3 + 1))), none] [] (hs E (jm N)) res) ∧ (¬ ((N 64) x3) = 0 → ((R ((N 66) x3)) ∧ ((((N 66) x3) = 0 → Ev 6 250 190 [some (.ref 59), none, some (.int (J (x2 + 1))), some (.int (J (x3 + 1))), none] [] (hs E (jm N)) res) ∧ (¬ ((N 66) x3) = 0 → Ev 6 250 190 [some (.ref 59), none, some (.int (J (x2 + 0))), some (.int (J (x3 + 1))), none] [] (hs E (jm N)) res)))))))))))) : Ev 6 250 190 [some (.ref 59), none, some (.int (J x2)), some (.int (J x3)), none] [] (hs E (jm N)) res := by
  refine w250_190 ?_
  obtain ⟨q1, q2, H⟩ := H
  refine ⟨fun hc => ?_, fun hc => ?_⟩
  · replace H := H.1 ((le_J (fld_J (jf_base _ _)) rfl q1 q2).mp hc)
    exact H.trans (rt_i rfl rfl)
  · replace H := H.2 (fun hz => hc ((le_J (fld_J (jf_base _ _)) rfl q1 q2).mpr hz))
    obtain ⟨q3, H⟩ := H
    refine ⟨inb_J rfl q3 (by decide), ?_⟩
    obtain ⟨q4, H⟩ := H
    refine ⟨fun hc => ?_, fun hc => ?_⟩
    · replace H := H.1 ((eq_J (rd_J (jf_base _ _) rfl q3 (by decide)) jl_0 q4 (by decide)).mp hc)
      exact Ev_to (clx (clx (cli (add_J rfl jl_0) (cli (add_J rfl jl_1) (clx rfl))))) rfl rfl H
    · replace H := H.2 (fun hz => hc ((eq_J (rd_J (jf_base _ _) rfl q3 (by decide)) jl_0 q4 (by decide)).mpr hz))
      refine ⟨inb_J rfl q3 (by decide), ?_⟩
      obtain ⟨q5, H⟩ := H
      refine ⟨fun hc => ?_, fun hc => ?_⟩
      · replace H := H.1 ((eq_J (rd_J (jf_base _ _) rfl q3 (by decide)) jl_0 q5 (by decide)).mp hc)
        exact Ev_to (clx (clx (cli (add_J rfl jl_1) (cli (add_J rfl jl_1) (clx rfl))))) rfl rfl H
      · replace H := H.2 (fun hz => hc ((eq_J (rd_J (jf_base _ _) rfl q3 (by decide)) jl_0 q5 (by decide)).mpr hz))
        exact Ev_to (clx (clx (cli (add_J rfl jl_0) (cli (add_J rfl jl_1) (clx rfl))))) rfl rfl H
theorem v250_239 {E : gw_N} {N : NM} {res : Option Value × gw_H} {x2 : Int} {x3 : Int} (H : ((R (G243 N)) ∧ ((R x3) ∧ (((G243 N) ≤ x3 → res = (some (.int (J x2)), hs E (jm N))) ∧ (¬ (G243 N) ≤ x3 → ((0 ≤ x3 ∧ x3 < 64) ∧ ((R ((N 69) x3)) ∧ ((((N 69) x3) = x3 → Ev 6 250 239 [some (.ref 59), none, some (.int (J (x2 + 1))), some (.int (J (x3 + 1))), none] [] (hs E (jm N)) res) ∧ (¬ ((N 69) x3) = x3 → Ev 6 250 239 [some (.ref 59), none, some (.int (J (x2 + 0))), some (.int (J (x3 + 1))), none] [] (hs E (jm N)) res))))))))) : Ev 6 250 239 [some (.ref 59), none, some (.int (J x2)), some (.int (J x3)), none] [] (hs E (jm N)) res := by
  refine w250_239 ?_
  obtain ⟨q1, q2, H⟩ := H
  refine ⟨fun hc => ?_, fun hc => ?_⟩
  · replace H := H.1 ((le_J ((congrArg F243 rfl).trans (t243)) rfl q1 q2).mp hc)
    exact H.trans (rt_i rfl rfl)
  · replace H := H.2 (fun hz => hc ((le_J ((congrArg F243 rfl).trans (t243)) rfl q1 q2).mpr hz))
    obtain ⟨q3, H⟩ := H
    refine ⟨inb_J rfl q3 (by decide), ?_⟩
    obtain ⟨q4, H⟩ := H
    refine ⟨fun hc => ?_, fun hc => ?_⟩
    · replace H := H.1 ((eq_J (rd_J (jf_base _ _) rfl q3 (by decide)) rfl q4 q2).mp hc)
      exact Ev_to (clx (clx (cli (add_J rfl jl_1) (cli (add_J rfl jl_1) (clx rfl))))) rfl rfl H
    · replace H := H.2 (fun hz => hc ((eq_J (rd_J (jf_base _ _) rfl q3 (by decide)) rfl q4 q2).mpr hz))
      exact Ev_to (clx (clx (cli (add_J rfl jl_0) (cli (add_J rfl jl_1) (clx rfl))))) rfl rfl H
theorem v250_275 {E : gw_N} {N : NM} {res : Option Value × gw_H} {x2 : Int} {x3 : Int} (H : ((R (G243 N)) ∧ ((R x3) ∧ (((G243 N) ≤ x3 → res = (some (.int (J x2)), hs E (jm N))) ∧ (¬ (G243 N) ≤ x3 → (∃ (r1 : Int), Rn 249 [.ref 59, .int (J x3)] (hs E (jm N)) (some (.int (J r1))) (hs E (jm N)) ∧ ((R r1) ∧ ((R x2) ∧ ((r1 ≤ x2 → Ev 6 250 275 [some (.ref 59), none, some (.int (J x2)), some (.int (J (x3 + 1))), none] [] (hs E (jm N)) res) ∧ (¬ r1 ≤ x2 → (∃ (r2 : Int), Rn 249 [.ref 59, .int (J x3)] (hs E (jm N)) (some (.int (J r2))) (hs E (jm N)) ∧ Ev 6 250 275 [some (.ref 59), none, some (.int (J r2)), some (.int (J (x3 + 1))), none] [] (hs E (jm N)) res))))))))))) : Ev 6 250 275 [some (.ref 59), none, some (.int (J x2)), some (.int (J x3)), none] [] (hs E (jm N)) res := by
  refine w250_275 ?_
  obtain ⟨q1, q2, H⟩ := H
  refine ⟨fun hc => ?_, fun hc => ?_⟩
  · replace H := H.1 ((le_J ((congrArg F243 rfl).trans (t243)) rfl q1 q2).mp hc)
    exact H.trans (rt_i rfl rfl)
  · replace H := H.2 (fun hz => hc ((le_J ((congrArg F243 rfl).trans (t243)) rfl q1 q2).mpr hz))
    obtain ⟨r1, q6, H⟩ := H
    refine ⟨J r1, Rn_to (clx (cai rfl rfl)) rfl rfl q6, ?_⟩
    obtain ⟨q3, q4, H⟩ := H
    refine ⟨fun hc => ?_, fun hc => ?_⟩
    · replace H := H.1 ((le_J rfl rfl q3 q4).mp hc)
      exact Ev_to (clx (clx (cli rfl (cli (add_J rfl jl_1) (clx rfl))))) rfl rfl H
    · replace H := H.2 (fun hz => hc ((le_J rfl rfl q3 q4).mpr hz))
      obtain ⟨r2, q5, H⟩ := H
      refine ⟨J r2, Rn_to (clx (cai rfl rfl)) rfl rfl q5, ?_⟩
      exact Ev_to (clx (clx (cli rfl (cli (add_J rfl jl_1) (clx rfl))))) rfl rfl H
-- 251 GlassWiresModel end (II)I
theorem v251_0 {E : gw_N} {N : NM} {res : Option Value × gw_H} {x1 : Int} {x2 : Int} (H : ((R x1) ∧ (((if 0 ≤ x1 ∧ x1 ≤ 1 then (1 : Int) else 0) = 0 → res = (some (.int (J (-102))), hs E (jm N))) ∧ (¬ (if 0 ≤ x1 ∧ x1 ≤ 1 then (1 : Int) else 0) = 0 → (∃ (N1 : NM), Rn 237 [.ref 59] (hs E (jm N)) none (hs E (jm N1)) ∧ Ev 6 251 22 [some (.ref 59), some (.int (J x1)), some (.int (J x2)), some (.int (J 0)), some (.int (J 0))] [] (hs E (jm N1)) res))))) : Ev 6 251 0 [some (.ref 59), some (.int (J x1)), some (.int (J x2)), none, none] [] (hs E (jm N)) res := by
  refine w251_0 ?_
  obtain ⟨q1, H⟩ := H
  refine ⟨fun hc => ?_, fun hc => ?_⟩
  · replace H := H.1 ((eq_J (in_J (congrArg Int32.toInt64 rfl) ll_0 ll_1 q1 (by decide) (by decide)) jl_0 R_in (by decide)).mp hc)
    exact H.trans (rt_i jl_m102 rfl)
  · replace H := H.2 (fun hz => hc ((eq_J (in_J (congrArg Int32.toInt64 rfl) ll_0 ll_1 q1 (by decide) (by decide)) jl_0 R_in (by decide)).mpr hz))
    obtain ⟨N1, q2, H⟩ := H
    refine ⟨jm N1, Rn_to (clx rfl) rfl rfl q2, ?_⟩
    exact Ev_to (clx (cli rfl (cli rfl (cli jl_0 (cli jl_0 rfl))))) rfl rfl H
theorem v251_22 {E : gw_N} {N : NM} {res : Option Value × gw_H} {x1 : Int} {x2 : Int} {x3 : Int} {x4 : Int} (H : ((R x4) ∧ (((81 : Int) ≤ x4 → res = (some (.int (J (-1))), hs E (jm N))) ∧ (¬ (81 : Int) ≤ x4 → ((Q214 N (Int.tmod x4 9) (Int.tdiv x4 9)) ∧ ((R (G214 N (Int.tmod x4 9) (Int.tdiv x4 9))) ∧ (((G214 N (Int.tmod x4 9) (Int.tdiv x4 9)) = 0 → Ev 6 251 22 [some (.ref 59), some (.int (J x1)), some (.int (J x2)), some (.int (J x3)), some (.int (J (x4 + 1)))] [] (hs E (jm N)) res) ∧ (¬ (G214 N (Int.tmod x4 9) (Int.tdiv x4 9)) = 0 → ((R x1) ∧ ((x1 = 0 → ((Q240 N (Int.tmod x4 9) (Int.tdiv x4 9)) ∧ ((R (G240 N (Int.tmod x4 9) (Int.tdiv x4 9))) ∧ (((G240 N (Int.tmod x4 9) (Int.tdiv x4 9)) = 0 → Ev 6 251 22 [some (.ref 59), some (.int (J x1)), some (.int (J x2)), some (.int (J x3)), some (.int (J (x4 + 1)))] [] (hs E (jm N)) res) ∧ (¬ (G240 N (Int.tmod x4 9) (Int.tdiv x4 9)) = 0 → ((R x3) ∧ ((R x2) ∧ ((x3 = x2 → res = (some (.int (J ((10 * (Int.tdiv x4 9)) + (Int.tmod x4 9)))), hs E (jm N))) ∧ (¬ x3 = x2 → Ev 6 251 22 [some (.ref 59), some (.int (J x1)), some (.int (J x2)), some (.int (J (x3 + 1))), some (.int (J (x4 + 1)))] [] (hs E (jm N)) res))))))))) ∧ (¬ x1 = 0 → (∃ (r1 : Int), Rn 241 [.ref 59, .int (J (Int.tmod x4 9)), .int (J (Int.tdiv x4 9))] (hs E (jm N)) (some (.int (J r1))) (hs E (jm N)) ∧ ((R r1) ∧ ((r1 = 0 → Ev 6 251 22 [some (.ref 59), some (.int (J x1)), some (.int (J x2)), some (.int (J x3)), some (.int (J (x4 + 1)))] [] (hs E (jm N)) res) ∧ (¬ r1 = 0 → ((R x3) ∧ ((R x2) ∧ ((x3 = x2 → res = (some (.int (J ((10 * (Int.tdiv x4 9)) + (Int.tmod x4 9)))), hs E (jm N))) ∧ (¬ x3 = x2 → Ev 6 251 22 [some (.ref 59), some (.int (J x1)), some (.int (J x2)), some (.int (J (x3 + 1))), some (.int (J (x4 + 1)))] [] (hs E (jm N)) res))))))))))))))))))) : Ev 6 251 22 [some (.ref 59), some (.int (J x1)), some (.int (J x2)), some (.int (J x3)), some (.int (J x4))] [] (hs E (jm N)) res := by
  refine w251_22 ?_
  obtain ⟨q1, H⟩ := H
  refine ⟨fun hc => ?_, fun hc => ?_⟩
  · replace H := H.1 ((le_J jl_81 rfl (by decide) q1).mp hc)
    exact H.trans (rt_i jl_m1 rfl)
  · replace H := H.2 (fun hz => hc ((le_J jl_81 rfl (by decide) q1).mpr hz))
    obtain ⟨q2, H⟩ := H
    obtain ⟨q3, H⟩ := H
    refine ⟨fun hc => ?_, fun hc => ?_⟩
    · replace H := H.1 ((eq_J ((congr (congr (congrArg F214 rfl) (rem_J rfl jl_9 q1 (by decide) (by decide))) (div_J rfl jl_9 q1 (by decide) (by decide))).trans (t214 q2)) jl_0 q3 (by decide)).mp hc)
      exact Ev_to (clx (cli rfl (cli rfl (cli rfl (cli (add_J rfl jl_1) rfl))))) rfl rfl H
    · replace H := H.2 (fun hz => hc ((eq_J ((congr (congr (congrArg F214 rfl) (rem_J rfl jl_9 q1 (by decide) (by decide))) (div_J rfl jl_9 q1 (by decide) (by decide))).trans (t214 q2)) jl_0 q3 (by decide)).mpr hz))
      obtain ⟨q4, H⟩ := H
      refine ⟨fun hc => ?_, fun hc => ?_⟩
      · replace H := H.1 ((eq_J rfl jl_0 q4 (by decide)).mp hc)
        obtain ⟨q5, H⟩ := H
        refine ⟨Eq.mpr (congr (congr (congrArg P240 rfl) (rem_J rfl jl_9 q1 (by decide) (by decide))) (div_J rfl jl_9 q1 (by decide) (by decide))) (p240 q5), ?_⟩
        obtain ⟨q6, H⟩ := H
        refine ⟨fun hc => ?_, fun hc => ?_⟩
        · replace H := H.1 ((eq_J ((congr (congr (congrArg F240 rfl) (rem_J rfl jl_9 q1 (by decide) (by decide))) (div_J rfl jl_9 q1 (by decide) (by decide))).trans (t240 q5)) jl_0 q6 (by decide)).mp hc)
          exact Ev_to (clx (cli rfl (cli rfl (cli rfl (cli (add_J rfl jl_1) rfl))))) rfl rfl H
        · replace H := H.2 (fun hz => hc ((eq_J ((congr (congr (congrArg F240 rfl) (rem_J rfl jl_9 q1 (by decide) (by decide))) (div_J rfl jl_9 q1 (by decide) (by decide))).trans (t240 q5)) jl_0 q6 (by decide)).mpr hz))
          obtain ⟨q7, q8, H⟩ := H
          refine ⟨fun hc => ?_, fun hc => ?_⟩
          · replace H := H.1 ((eq_J rfl rfl q7 q8).mp hc)
            exact H.trans (rt_i (add_J (mul_J jl_10 (div_J rfl jl_9 q1 (by decide) (by decide))) (rem_J rfl jl_9 q1 (by decide) (by decide))) rfl)
          · replace H := H.2 (fun hz => hc ((eq_J rfl rfl q7 q8).mpr hz))
            exact Ev_to (clx (cli rfl (cli rfl (cli (add_J rfl jl_1) (cli (add_J rfl jl_1) rfl))))) rfl rfl H
      · replace H := H.2 (fun hz => hc ((eq_J rfl jl_0 q4 (by decide)).mpr hz))
        obtain ⟨r1, q12, H⟩ := H
        refine ⟨J r1, Rn_to (clx (cai (rem_J rfl jl_9 q1 (by decide) (by decide)) (cai (div_J rfl jl_9 q1 (by decide) (by decide)) rfl))) rfl rfl q12, ?_⟩
        obtain ⟨q9, H⟩ := H
        refine ⟨fun hc => ?_, fun hc => ?_⟩
        · replace H := H.1 ((eq_J rfl jl_0 q9 (by decide)).mp hc)
          exact Ev_to (clx (cli rfl (cli rfl (cli rfl (cli (add_J rfl jl_1) rfl))))) rfl rfl H
        · replace H := H.2 (fun hz => hc ((eq_J rfl jl_0 q9 (by decide)).mpr hz))
          obtain ⟨q10, q11, H⟩ := H
          refine ⟨fun hc => ?_, fun hc => ?_⟩
          · replace H := H.1 ((eq_J rfl rfl q10 q11).mp hc)
            exact H.trans (rt_i (add_J (mul_J jl_10 (div_J rfl jl_9 q1 (by decide) (by decide))) (rem_J rfl jl_9 q1 (by decide) (by decide))) rfl)
          · replace H := H.2 (fun hz => hc ((eq_J rfl rfl q10 q11).mpr hz))
            exact Ev_to (clx (cli rfl (cli rfl (cli (add_J rfl jl_1) (cli (add_J rfl jl_1) rfl))))) rfl rfl H
-- 293 GlassWiresModel strain (II)I
theorem v293_0 {E : gw_N} {N : NM} {res : Option Value × gw_H} {x1 : Int} {x2 : Int} (H : ((R x1) ∧ (((if 0 ≤ x1 ∧ x1 ≤ 999 then (1 : Int) else 0) = 0 → res = (some (.int (J (-102))), hs E (jm N))) ∧ (¬ (if 0 ≤ x1 ∧ x1 ≤ 999 then (1 : Int) else 0) = 0 → ((R x2) ∧ (((if 0 ≤ x2 ∧ x2 ≤ x1 then (1 : Int) else 0) = 0 → res = (some (.int (J (-102))), hs E (jm N))) ∧ (¬ (if 0 ≤ x2 ∧ x2 ≤ x1 then (1 : Int) else 0) = 0 → (∃ (r1 : Int), Rn 292 [.ref 59, .int (J (x1 - x2))] (hs E (jm N)) (some (.int (J r1))) (hs E (jm N)) ∧ res = (some (.int (J r1)), hs E (jm N)))))))))) : Ev 6 293 0 [some (.ref 59), some (.int (J x1)), some (.int (J x2))] [] (hs E (jm N)) res := by
  refine w293_0 ?_
  obtain ⟨q1, H⟩ := H
  refine ⟨fun hc => ?_, fun hc => ?_⟩
  · replace H := H.1 ((eq_J (in_J (congrArg Int32.toInt64 rfl) ll_0 ll_999 q1 (by decide) (by decide)) jl_0 R_in (by decide)).mp hc)
    exact H.trans (rt_i jl_m102 rfl)
  · replace H := H.2 (fun hz => hc ((eq_J (in_J (congrArg Int32.toInt64 rfl) ll_0 ll_999 q1 (by decide) (by decide)) jl_0 R_in (by decide)).mpr hz))
    obtain ⟨q2, H⟩ := H
    refine ⟨fun hc => ?_, fun hc => ?_⟩
    · replace H := H.1 ((eq_J (in_J (congrArg Int32.toInt64 rfl) ll_0 (congrArg Int32.toInt64 rfl) q2 (by decide) q1) jl_0 R_in (by decide)).mp hc)
      exact H.trans (rt_i jl_m102 rfl)
    · replace H := H.2 (fun hz => hc ((eq_J (in_J (congrArg Int32.toInt64 rfl) ll_0 (congrArg Int32.toInt64 rfl) q2 (by decide) q1) jl_0 R_in (by decide)).mpr hz))
      obtain ⟨r1, q3, H⟩ := H
      refine ⟨J r1, Rn_to (clx (cai (sub_J rfl rfl) rfl)) rfl rfl q3, ?_⟩
      exact H.trans (rt_i rfl rfl)
-- 294 GlassWiresModel longest ()I
theorem v294_0 {E : gw_N} {N : NM} {res : Option Value × gw_H}  (H : Ev 6 294 2 [some (.ref 59), some (.int (J 0))] [] (hs E (jm N)) res) : Ev 6 294 0 [some (.ref 59), none] [] (hs E (jm N)) res := by
  refine w294_0 ?_
  exact Ev_to (clx (cli jl_0 rfl)) rfl rfl H
theorem v294_2 {E : gw_N} {N : NM} {res : Option Value × gw_H} {x1 : Int} (H : ((R x1) ∧ (((999 : Int) ≤ x1 → res = (some (.int (J x1)), hs E (jm N))) ∧ (¬ (999 : Int) ≤ x1 → (∃ (r1 : Int), Rn 292 [.ref 59, .int (J (x1 + 1))] (hs E (jm N)) (some (.int (J r1))) (hs E (jm N)) ∧ ((R ((N 59) 24)) ∧ ((R r1) ∧ ((((N 59) 24) < r1 → res = (some (.int (J x1)), hs E (jm N))) ∧ (¬ ((N 59) 24) < r1 → Ev 6 294 2 [some (.ref 59), some (.int (J (x1 + 1)))] [] (hs E (jm N)) res))))))))) : Ev 6 294 2 [some (.ref 59), some (.int (J x1))] [] (hs E (jm N)) res := by
  refine w294_2 ?_
  obtain ⟨q1, H⟩ := H
  refine ⟨fun hc => ?_, fun hc => ?_⟩
  · replace H := H.1 ((le_J jl_999 rfl (by decide) q1).mp hc)
    exact H.trans (rt_i rfl rfl)
  · replace H := H.2 (fun hz => hc ((le_J jl_999 rfl (by decide) q1).mpr hz))
    obtain ⟨r1, q4, H⟩ := H
    refine ⟨J r1, Rn_to (clx (cai (add_J rfl jl_1) rfl)) rfl rfl q4, ?_⟩
    obtain ⟨q2, q3, H⟩ := H
    refine ⟨fun hc => ?_, fun hc => ?_⟩
    · replace H := H.1 ((lt_J (fld_J (jf_base _ _)) rfl q2 q3).mp hc)
      exact H.trans (rt_i rfl rfl)
    · replace H := H.2 (fun hz => hc ((lt_J (fld_J (jf_base _ _)) rfl q2 q3).mpr hz))
      exact Ev_to (clx (cli (add_J rfl jl_1) rfl)) rfl rfl H
-- 70 GlassWires$Net places (I)I
theorem v70_0 {E : gw_N} {N : NM} {res : Option Value × gw_H} {x1 : Int} (H : Ev 7 70 4 [some (.ref 22), some (.int (J x1)), some (.int (J 0)), some (.int (J 0)), none] [] (hs E (jm N)) res) : Ev 7 70 0 [some (.ref 22), some (.int (J x1)), none, none, none] [] (hs E (jm N)) res := by
  refine w70_0 ?_
  exact Ev_to (clx (cli rfl (cli jl_0 (cli jl_0 (clx rfl))))) rfl rfl H
theorem v70_4 {E : gw_N} {N : NM} {res : Option Value × gw_H} {x1 : Int} {x2 : Int} {x3 : Int} (H : ((R (G39 N)) ∧ ((R x3) ∧ (((G39 N) < x3 → res = (some (.int (J x2)), hs E (jm N))) ∧ (¬ (G39 N) < x3 → Ev 7 70 18 [some (.ref 22), some (.int (J x1)), some (.int (J x2)), some (.int (J x3)), some (.int (J 0))] [] (hs E (jm N)) res))))) : Ev 7 70 4 [some (.ref 22), some (.int (J x1)), some (.int (J x2)), some (.int (J x3)), none] [] (hs E (jm N)) res := by
  refine w70_4 ?_
  obtain ⟨q1, q2, H⟩ := H
  refine ⟨fun hc => ?_, fun hc => ?_⟩
  · replace H := H.1 ((lt_J ((congrArg F39 rfl).trans (t39)) rfl q1 q2).mp hc)
    exact H.trans (rt_i rfl rfl)
  · replace H := H.2 (fun hz => hc ((lt_J ((congrArg F39 rfl).trans (t39)) rfl q1 q2).mpr hz))
    exact Ev_to (clx (cli rfl (cli rfl (cli rfl (cli jl_0 rfl))))) rfl rfl H
theorem v70_18 {E : gw_N} {N : NM} {res : Option Value × gw_H} {x1 : Int} {x2 : Int} {x3 : Int} {x4 : Int} (H : ((R (G38 N)) ∧ ((R x4) ∧ (((G38 N) < x4 → Ev 7 70 4 [some (.ref 22), some (.int (J x1)), some (.int (J x2)), some (.int (J (x3 + 1))), none] [] (hs E (jm N)) res) ∧ (¬ (G38 N) < x4 → (∃ (r1 : Int), Rn 72 [.ref 22, .int (J x1), .int (J x4), .int (J x3)] (hs E (jm N)) (some (.int (J r1))) (hs E (jm N)) ∧ ((Q206 N r1) ∧ Ev 7 70 18 [some (.ref 22), some (.int (J x1)), some (.int (J (x2 + (G206 N r1)))), some (.int (J x3)), some (.int (J (x4 + 1)))] [] (hs E (jm N)) res))))))) : Ev 7 70 18 [some (.ref 22), some (.int (J x1)), some (.int (J x2)), some (.int (J x3)), some (.int (J x4))] [] (hs E (jm N)) res := by
  refine w70_18 ?_
  obtain ⟨q1, q2, H⟩ := H
  refine ⟨fun hc => ?_, fun hc => ?_⟩
  · replace H := H.1 ((lt_J ((congrArg F38 rfl).trans (t38)) rfl q1 q2).mp hc)
    exact Ev_to (clx (cli rfl (cli rfl (cli (add_J rfl jl_1) (clx rfl))))) rfl rfl H
  · replace H := H.2 (fun hz => hc ((lt_J ((congrArg F38 rfl).trans (t38)) rfl q1 q2).mpr hz))
    obtain ⟨r1, q4, H⟩ := H
    refine ⟨J r1, Rn_to (clx (cai rfl (cai rfl (cai rfl rfl)))) rfl rfl q4, ?_⟩
    obtain ⟨q3, H⟩ := H
    exact Ev_to (clx (cli rfl (cli (add_J rfl ((congr (congrArg F206 rfl) rfl).trans (t206 q3))) (cli rfl (cli (add_J rfl jl_1) rfl))))) rfl rfl H
-- 71 GlassWires$Net place (II)I
theorem v71_0 {E : gw_N} {N : NM} {res : Option Value × gw_H} {x1 : Int} {x2 : Int} (H : Ev 7 71 5 [some (.ref 22), some (.int (J x1)), none, some (.int (J x2)), some (.int (J 0)), none] [] (hs E (jm N)) res) : Ev 7 71 0 [some (.ref 22), some (.int (J x1)), some (.int (J x2)), none, none, none] [] (hs E (jm N)) res := by
  refine w71_0 ?_
  exact Ev_to (clx (cli rfl (clx (cli rfl (cli jl_0 (clx rfl)))))) rfl rfl H
theorem v71_5 {E : gw_N} {N : NM} {res : Option Value × gw_H} {x1 : Int} {x3 : Int} {x4 : Int} (H : ((R (G39 N)) ∧ ((R x4) ∧ (((G39 N) < x4 → res = (some (.int (J (-1))), hs E (jm N))) ∧ (¬ (G39 N) < x4 → Ev 7 71 20 [some (.ref 22), some (.int (J x1)), none, some (.int (J x3)), some (.int (J x4)), some (.int (J 0))] [] (hs E (jm N)) res))))) : Ev 7 71 5 [some (.ref 22), some (.int (J x1)), none, some (.int (J x3)), some (.int (J x4)), none] [] (hs E (jm N)) res := by
  refine w71_5 ?_
  obtain ⟨q1, q2, H⟩ := H
  refine ⟨fun hc => ?_, fun hc => ?_⟩
  · replace H := H.1 ((lt_J ((congrArg F39 rfl).trans (t39)) rfl q1 q2).mp hc)
    exact H.trans (rt_i jl_m1 rfl)
  · replace H := H.2 (fun hz => hc ((lt_J ((congrArg F39 rfl).trans (t39)) rfl q1 q2).mpr hz))
    exact Ev_to (clx (cli rfl (clx (cli rfl (cli rfl (cli jl_0 rfl)))))) rfl rfl H
theorem v71_20 {E : gw_N} {N : NM} {res : Option Value × gw_H} {x1 : Int} {x3 : Int} {x4 : Int} {x5 : Int} (H : ((R (G38 N)) ∧ ((R x5) ∧ (((G38 N) < x5 → Ev 7 71 5 [some (.ref 22), some (.int (J x1)), none, some (.int (J x3)), some (.int (J (x4 + 1))), none] [] (hs E (jm N)) res) ∧ (¬ (G38 N) < x5 → (∃ (r1 : Int), Rn 72 [.ref 22, .int (J x1), .int (J x5), .int (J x4)] (hs E (jm N)) (some (.int (J r1))) (hs E (jm N)) ∧ ((R r1) ∧ ((r1 = 0 → Ev 7 71 20 [some (.ref 22), some (.int (J x1)), none, some (.int (J x3)), some (.int (J x4)), some (.int (J (x5 + 1)))] [] (hs E (jm N)) res) ∧ (¬ r1 = 0 → ((R x3) ∧ ((x3 = 0 → res = (some (.int (J (G48 N x5 x4))), hs E (jm N))) ∧ (¬ x3 = 0 → Ev 7 71 20 [some (.ref 22), some (.int (J x1)), none, some (.int (J (x3 + (-1)))), some (.int (J x4)), some (.int (J (x5 + 1)))] [] (hs E (jm N)) res)))))))))))) : Ev 7 71 20 [some (.ref 22), some (.int (J x1)), none, some (.int (J x3)), some (.int (J x4)), some (.int (J x5))] [] (hs E (jm N)) res := by
  refine w71_20 ?_
  obtain ⟨q1, q2, H⟩ := H
  refine ⟨fun hc => ?_, fun hc => ?_⟩
  · replace H := H.1 ((lt_J ((congrArg F38 rfl).trans (t38)) rfl q1 q2).mp hc)
    exact Ev_to (clx (cli rfl (clx (cli rfl (cli (add_J rfl jl_1) (clx rfl)))))) rfl rfl H
  · replace H := H.2 (fun hz => hc ((lt_J ((congrArg F38 rfl).trans (t38)) rfl q1 q2).mpr hz))
    obtain ⟨r1, q5, H⟩ := H
    refine ⟨J r1, Rn_to (clx (cai rfl (cai rfl (cai rfl rfl)))) rfl rfl q5, ?_⟩
    obtain ⟨q3, H⟩ := H
    refine ⟨fun hc => ?_, fun hc => ?_⟩
    · replace H := H.1 ((eq_J rfl jl_0 q3 (by decide)).mp hc)
      exact Ev_to (clx (cli rfl (clx (cli rfl (cli rfl (cli (add_J rfl jl_1) rfl)))))) rfl rfl H
    · replace H := H.2 (fun hz => hc ((eq_J rfl jl_0 q3 (by decide)).mpr hz))
      obtain ⟨q4, H⟩ := H
      refine ⟨fun hc => ?_, fun hc => ?_⟩
      · replace H := H.1 ((eq_J rfl jl_0 q4 (by decide)).mp hc)
        exact H.trans (rt_i ((congr (congr (congrArg F48 rfl) rfl) rfl).trans (t48)) rfl)
      · replace H := H.2 (fun hz => hc ((eq_J rfl jl_0 q4 (by decide)).mpr hz))
        exact Ev_to (clx (cli rfl (clx (cli (add_J rfl jl_m1) (cli rfl (cli (add_J rfl jl_1) rfl)))))) rfl rfl H
-- 75 GlassWires$Net pieces ()I
theorem v75_0 {E : gw_N} {N : NM} {res : Option Value × gw_H}  (H : (∃ (N1 : NM), Rn 313 [.ref 30, .int (J 0)] (hs E (jm N)) none (hs E (jm N1)) ∧ Ev 7 75 12 [some (.ref 22), some (.int (J 0)), some (.int (J 0)), none] [] (hs E (jm N1)) res)) : Ev 7 75 0 [some (.ref 22), none, none, none] [] (hs E (jm N)) res := by
  refine w75_0 ?_
  obtain ⟨N1, q1, H⟩ := H
  refine ⟨jm N1, Rn_to (clx (cai jl_0 rfl)) rfl rfl q1, ?_⟩
  exact Ev_to (clx (cli jl_0 (cli jl_0 (clx rfl)))) rfl rfl H
theorem v75_12 {E : gw_N} {N : NM} {res : Option Value × gw_H} {x1 : Int} {x2 : Int} (H : ((R (G39 N)) ∧ ((R x2) ∧ (((G39 N) < x2 → res = (some (.int (J x1)), hs E (jm N))) ∧ (¬ (G39 N) < x2 → Ev 7 75 25 [some (.ref 22), some (.int (J x1)), some (.int (J x2)), some (.int (J 0))] [] (hs E (jm N)) res))))) : Ev 7 75 12 [some (.ref 22), some (.int (J x1)), some (.int (J x2)), none] [] (hs E (jm N)) res := by
  refine w75_12 ?_
  obtain ⟨q1, q2, H⟩ := H
  refine ⟨fun hc => ?_, fun hc => ?_⟩
  · replace H := H.1 ((lt_J ((congrArg F39 rfl).trans (t39)) rfl q1 q2).mp hc)
    exact H.trans (rt_i rfl rfl)
  · replace H := H.2 (fun hz => hc ((lt_J ((congrArg F39 rfl).trans (t39)) rfl q1 q2).mpr hz))
    exact Ev_to (clx (cli rfl (cli rfl (cli jl_0 rfl)))) rfl rfl H
theorem v75_25 {E : gw_N} {N : NM} {res : Option Value × gw_H} {x1 : Int} {x2 : Int} {x3 : Int} (H : ((R (G38 N)) ∧ ((R x3) ∧ (((G38 N) < x3 → Ev 7 75 12 [some (.ref 22), some (.int (J x1)), some (.int (J (x2 + 1))), none] [] (hs E (jm N)) res) ∧ (¬ (G38 N) < x3 → ((0 ≤ (G48 N x3 x2) ∧ (G48 N x3 x2) < 89) ∧ ((R ((N 30) (G48 N x3 x2))) ∧ ((((N 30) (G48 N x3 x2)) = 0 → (∃ (r1 : Int), Rn 73 [.ref 22, .int (J x3), .int (J x2)] (hs E (jm N)) (some (.int (J r1))) (hs E (jm N)) ∧ ((R r1) ∧ ((r1 ≤ 0 → Ev 7 75 25 [some (.ref 22), some (.int (J x1)), some (.int (J x2)), some (.int (J (x3 + 1)))] [] (hs E (jm N)) res) ∧ (¬ r1 ≤ 0 → (∃ (r2 : Int) (N2 : NM), Rn 76 [.ref 22, .int (J x3), .int (J x2)] (hs E (jm N)) (some (.int (J r2))) (hs E (jm N2)) ∧ ((R r2) ∧ ((Q311 N2 1 (Int.tdiv r2 2)) ∧ Ev 7 75 25 [some (.ref 22), some (.int (J (x1 + (G311 N2 1 (Int.tdiv r2 2))))), some (.int (J x2)), some (.int (J (x3 + 1)))] [] (hs E (jm N2)) res)))))))) ∧ (¬ ((N 30) (G48 N x3 x2)) = 0 → Ev 7 75 25 [some (.ref 22), some (.int (J x1)), some (.int (J x2)), some (.int (J (x3 + 1)))] [] (hs E (jm N)) res))))))))) : Ev 7 75 25 [some (.ref 22), some (.int (J x1)), some (.int (J x2)), some (.int (J x3))] [] (hs E (jm N)) res := by
  refine w75_25 ?_
  obtain ⟨q1, q2, H⟩ := H
  refine ⟨fun hc => ?_, fun hc => ?_⟩
  · replace H := H.1 ((lt_J ((congrArg F38 rfl).trans (t38)) rfl q1 q2).mp hc)
    exact Ev_to (clx (cli rfl (cli (add_J rfl jl_1) (clx rfl)))) rfl rfl H
  · replace H := H.2 (fun hz => hc ((lt_J ((congrArg F38 rfl).trans (t38)) rfl q1 q2).mpr hz))
    obtain ⟨q3, H⟩ := H
    refine ⟨inb_J ((congr (congr (congrArg F48 rfl) rfl) rfl).trans (t48)) q3 (by decide), ?_⟩
    obtain ⟨q4, H⟩ := H
    refine ⟨fun hc => ?_, fun hc => ?_⟩
    · replace H := H.1 ((eq_J (rd_J (jf_base _ _) ((congr (congr (congrArg F48 rfl) rfl) rfl).trans (t48)) q3 (by decide)) jl_0 q4 (by decide)).mp hc)
      obtain ⟨r1, q9, H⟩ := H
      refine ⟨J r1, Rn_to (clx (cai rfl (cai rfl rfl))) rfl rfl q9, ?_⟩
      obtain ⟨q5, H⟩ := H
      refine ⟨fun hc => ?_, fun hc => ?_⟩
      · replace H := H.1 ((le_J rfl jl_0 q5 (by decide)).mp hc)
        exact Ev_to (clx (cli rfl (cli rfl (cli (add_J rfl jl_1) rfl)))) rfl rfl H
      · replace H := H.2 (fun hz => hc ((le_J rfl jl_0 q5 (by decide)).mpr hz))
        obtain ⟨r2, N2, q8, H⟩ := H
        refine ⟨J r2, jm N2, Rn_to (clx (cai rfl (cai rfl rfl))) rfl rfl q8, ?_⟩
        obtain ⟨q6, q7, H⟩ := H
        exact Ev_to (clx (cli (add_J rfl ((congr (congr (congrArg F311 rfl) jl_1) (div_J rfl jl_2 q6 (by decide) (by decide))).trans (t311 q7))) (cli rfl (cli (add_J rfl jl_1) rfl)))) rfl rfl H
    · replace H := H.2 (fun hz => hc ((eq_J (rd_J (jf_base _ _) ((congr (congr (congrArg F48 rfl) rfl) rfl).trans (t48)) q3 (by decide)) jl_0 q4 (by decide)).mpr hz))
      exact Ev_to (clx (cli rfl (cli rfl (cli (add_J rfl jl_1) rfl)))) rfl rfl H
-- 139 GlassWires$Tension heatBehind (II)I
theorem v139_0 {E : gw_N} {N : NM} {res : Option Value × gw_H} {x1 : Int} {x2 : Int} (H : ((R x2) ∧ ((x2 = 0 → res = (some (.int (J x1)), hs E (jm N))) ∧ (¬ x2 = 0 → ((x2 < 0 → res = (some (.int (J (-1))), hs E (jm N))) ∧ (¬ x2 < 0 → (∃ (r1 : Int), Rn 138 [.ref 53, .int (J x1)] (hs E (jm N)) (some (.int (J r1))) (hs E (jm N)) ∧ ((R r1) ∧ ((x2 ≤ r1 → (∃ (r2 : Int), Rn 137 [.ref 53, .int (J x1)] (hs E (jm N)) (some (.int (J r2))) (hs E (jm N)) ∧ ((Q311 N 0 (x1 - (x2 * r2))) ∧ res = (some (.int (J (G311 N 0 (x1 - (x2 * r2))))), hs E (jm N))))) ∧ (¬ x2 ≤ r1 → res = (some (.int (J (-1))), hs E (jm N)))))))))))) : Ev 7 139 0 [some (.ref 53), some (.int (J x1)), some (.int (J x2))] [] (hs E (jm N)) res := by
  refine w139_0 ?_
  obtain ⟨q1, H⟩ := H
  refine ⟨fun hc => ?_, fun hc => ?_⟩
  · replace H := H.1 ((eq_J rfl jl_0 q1 (by decide)).mp hc)
    exact H.trans (rt_i rfl rfl)
  · replace H := H.2 (fun hz => hc ((eq_J rfl jl_0 q1 (by decide)).mpr hz))
    refine ⟨fun hc => ?_, fun hc => ?_⟩
    · replace H := H.1 ((lt_J rfl jl_0 q1 (by decide)).mp hc)
      exact H.trans (rt_i jl_m1 rfl)
    · replace H := H.2 (fun hz => hc ((lt_J rfl jl_0 q1 (by decide)).mpr hz))
      obtain ⟨r1, q5, H⟩ := H
      refine ⟨J r1, Rn_to (clx (cai rfl rfl)) rfl rfl q5, ?_⟩
      obtain ⟨q2, H⟩ := H
      refine ⟨fun hc => ?_, fun hc => ?_⟩
      · replace H := H.1 ((le_J rfl rfl q1 q2).mp hc)
        obtain ⟨r2, q4, H⟩ := H
        refine ⟨J r2, Rn_to (clx (cai rfl rfl)) rfl rfl q4, ?_⟩
        obtain ⟨q3, H⟩ := H
        exact H.trans (rt_i ((congr (congr (congrArg F311 rfl) jl_0) (sub_J rfl (mul_J rfl rfl))).trans (t311 q3)) rfl)
      · replace H := H.2 (fun hz => hc ((le_J rfl rfl q1 q2).mpr hz))
        exact H.trans (rt_i jl_m1 rfl)
-- 161 GlassWires plate (II)I
theorem v161_0 {E : gw_N} {N : NM} {res : Option Value × gw_H} {x1 : Int} {x2 : Int} (H : ((Q36 N x1) ∧ ((R (G36 N x1)) ∧ (((G36 N x1) = 0 → res = (some (.int (J (-102))), hs E (jm N))) ∧ (¬ (G36 N x1) = 0 → ((Q36 N x2) ∧ ((R (G36 N x2)) ∧ (((G36 N x2) = 0 → res = (some (.int (J (-102))), hs E (jm N))) ∧ (¬ (G36 N x2) = 0 → (∃ (N1 : NM), Rn 37 [.ref 9, .int (J x1), .int (J x2)] (hs E (jm N)) none (hs E (jm N1)) ∧ (∃ (N2 : NM), Rn 142 [.ref 14] (hs E (jm N1)) none (hs E (jm N2)) ∧ (∃ (N3 : NM), Rn 9 [.ref 44] (hs E (jm N2)) none (hs E (jm N3)) ∧ (∃ (N4 : NM), Rn 129 [.ref 53, .int (J 0), .int (J 0)] (hs E (jm N3)) none (hs E (jm N4)) ∧ (∃ (N5 : NM), Rn 118 [.ref 54] (hs E (jm N4)) none (hs E (jm N5)) ∧ (∃ (N6 : NM), Rn 203 [.ref 8] (hs E (jm N5)) none (hs E (jm N6)) ∧ res = (some (.int (J (G40 N6))), hs E (jm N6))))))))))))))))) : Ev 7 161 0 [some (.ref 8), some (.int (J x1)), some (.int (J x2))] [] (hs E (jm N)) res := by
  refine w161_0 ?_
  obtain ⟨q1, H⟩ := H
  obtain ⟨q2, H⟩ := H
  refine ⟨fun hc => ?_, fun hc => ?_⟩
  · replace H := H.1 ((eq_J ((congr (congrArg F36 rfl) rfl).trans (t36 q1)) jl_0 q2 (by decide)).mp hc)
    exact H.trans (rt_i jl_m102 rfl)
  · replace H := H.2 (fun hz => hc ((eq_J ((congr (congrArg F36 rfl) rfl).trans (t36 q1)) jl_0 q2 (by decide)).mpr hz))
    obtain ⟨q3, H⟩ := H
    obtain ⟨q4, H⟩ := H
    refine ⟨fun hc => ?_, fun hc => ?_⟩
    · replace H := H.1 ((eq_J ((congr (congrArg F36 rfl) rfl).trans (t36 q3)) jl_0 q4 (by decide)).mp hc)
      exact H.trans (rt_i jl_m102 rfl)
    · replace H := H.2 (fun hz => hc ((eq_J ((congr (congrArg F36 rfl) rfl).trans (t36 q3)) jl_0 q4 (by decide)).mpr hz))
      obtain ⟨N1, q10, H⟩ := H
      refine ⟨jm N1, Rn_to (clx (cai rfl (cai rfl rfl))) rfl rfl q10, ?_⟩
      obtain ⟨N2, q9, H⟩ := H
      refine ⟨jm N2, Rn_to (clx rfl) rfl rfl q9, ?_⟩
      obtain ⟨N3, q8, H⟩ := H
      refine ⟨jm N3, Rn_to (clx rfl) rfl rfl q8, ?_⟩
      obtain ⟨N4, q7, H⟩ := H
      refine ⟨jm N4, Rn_to (clx (cai jl_0 (cai jl_0 rfl))) rfl rfl q7, ?_⟩
      obtain ⟨N5, q6, H⟩ := H
      refine ⟨jm N5, Rn_to (clx rfl) rfl rfl q6, ?_⟩
      obtain ⟨N6, q5, H⟩ := H
      refine ⟨jm N6, Rn_to (clx rfl) rfl rfl q5, ?_⟩
      exact H.trans (rt_i ((congrArg F40 rfl).trans (t40)) rfl)
-- 165 GlassWires wire (II)I
theorem v165_0 {E : gw_N} {N : NM} {res : Option Value × gw_H} {x1 : Int} {x2 : Int} (H : ((Q41 N x1 x2) ∧ ((R (G41 N x1 x2)) ∧ (((G41 N x1 x2) = 0 → res = (some (.int (J (-101))), hs E (jm N))) ∧ (¬ (G41 N x1 x2) = 0 → (∃ (r1 : Int), Rn 85 [.ref 12, .ref 9, .int (J x1), .int (J x2)] (hs E (jm N)) (some (.int (J r1))) (hs E (jm N)) ∧ ((R r1) ∧ ((r1 = 0 → res = (some (.int (J (-103))), hs E (jm N))) ∧ (¬ r1 = 0 → (∃ (r2 : Int) (N2 : NM), Rn 156 [.ref 14, .ref 12, .int (J x1), .int (J x2)] (hs E (jm N)) (some (.int (J r2))) (hs E (jm N2)) ∧ ((R r2) ∧ ((r2 < 0 → res = (some (.int (J r2)), hs E (jm N2))) ∧ (¬ r2 < 0 → (∃ (r3 : Int) (N3 : NM), Rn 79 [.ref 12] (hs E (jm N2)) (some (.int (J r3))) (hs E (jm N3)) ∧ (∃ (N4 : NM), Rn 203 [.ref 8] (hs E (jm N3)) none (hs E (jm N4)) ∧ res = (some (.int (J r2)), hs E (jm N4))))))))))))))))) : Ev 7 165 0 [some (.ref 8), some (.int (J x1)), some (.int (J x2)), none] [] (hs E (jm N)) res := by
  refine w165_0 ?_
  obtain ⟨q1, H⟩ := H
  obtain ⟨q2, H⟩ := H
  refine ⟨fun hc => ?_, fun hc => ?_⟩
  · replace H := H.1 ((eq_J ((congr (congr (congrArg F41 rfl) rfl) rfl).trans (t41 q1)) jl_0 q2 (by decide)).mp hc)
    exact H.trans (rt_i jl_m101 rfl)
  · replace H := H.2 (fun hz => hc ((eq_J ((congr (congr (congrArg F41 rfl) rfl) rfl).trans (t41 q1)) jl_0 q2 (by decide)).mpr hz))
    obtain ⟨r1, q8, H⟩ := H
    refine ⟨J r1, Rn_to (clx (clx (cai rfl (cai rfl rfl)))) rfl rfl q8, ?_⟩
    obtain ⟨q3, H⟩ := H
    refine ⟨fun hc => ?_, fun hc => ?_⟩
    · replace H := H.1 ((eq_J rfl jl_0 q3 (by decide)).mp hc)
      exact H.trans (rt_i jl_m103 rfl)
    · replace H := H.2 (fun hz => hc ((eq_J rfl jl_0 q3 (by decide)).mpr hz))
      obtain ⟨r2, N2, q7, H⟩ := H
      refine ⟨J r2, jm N2, Rn_to (clx (clx (cai rfl (cai rfl rfl)))) rfl rfl q7, ?_⟩
      obtain ⟨q4, H⟩ := H
      refine ⟨fun hc => ?_, fun hc => ?_⟩
      · replace H := H.1 ((lt_J rfl jl_0 q4 (by decide)).mp hc)
        exact H.trans (rt_i rfl rfl)
      · replace H := H.2 (fun hz => hc ((lt_J rfl jl_0 q4 (by decide)).mpr hz))
        obtain ⟨r3, N3, q6, H⟩ := H
        refine ⟨J r3, jm N3, Rn_to (clx rfl) rfl rfl q6, ?_⟩
        obtain ⟨N4, q5, H⟩ := H
        refine ⟨jm N4, Rn_to (clx rfl) rfl rfl q5, ?_⟩
        exact H.trans (rt_i rfl rfl)
-- 166 GlassWires lay (IZ)I
theorem v166_0 {E : gw_N} {N : NM} {res : Option Value × gw_H} {x1 : Int} {x2 : Int} (H : ((Q144 N x1) ∧ ((R (G144 N x1)) ∧ (((G144 N x1) = 0 → res = (some (.int (J (-101))), hs E (jm N))) ∧ (¬ (G144 N x1) = 0 → ((Q145 N x1) ∧ ((Q206 N (G145 N x1)) ∧ (∃ (N1 : NM), Rn 146 [.ref 14, .int (J x1), .int (J x2)] (hs E (jm N)) none (hs E (jm N1)) ∧ (∃ (N2 : NM), Rn 203 [.ref 8] (hs E (jm N1)) none (hs E (jm N2)) ∧ res = (some (.int (J (G206 N (G145 N x1)))), hs E (jm N2))))))))))) : Ev 7 166 0 [some (.ref 8), some (.int (J x1)), some (.int (J x2)), none] [] (hs E (jm N)) res := by
  refine w166_0 ?_
  obtain ⟨q1, H⟩ := H
  obtain ⟨q2, H⟩ := H
  refine ⟨fun hc => ?_, fun hc => ?_⟩
  · replace H := H.1 ((eq_J ((congr (congrArg F144 rfl) rfl).trans (t144 q1)) jl_0 q2 (by decide)).mp hc)
    exact H.trans (rt_i jl_m101 rfl)
  · replace H := H.2 (fun hz => hc ((eq_J ((congr (congrArg F144 rfl) rfl).trans (t144 q1)) jl_0 q2 (by decide)).mpr hz))
    obtain ⟨q3, H⟩ := H
    refine ⟨Eq.mpr (congr (congrArg P145 rfl) rfl) (p145 q3), ?_⟩
    obtain ⟨q4, H⟩ := H
    obtain ⟨N1, q6, H⟩ := H
    refine ⟨jm N1, Rn_to (clx (cai rfl (cai rfl rfl))) rfl rfl q6, ?_⟩
    obtain ⟨N2, q5, H⟩ := H
    refine ⟨jm N2, Rn_to (clx rfl) rfl rfl q5, ?_⟩
    exact H.trans (rt_i ((congr (congrArg F206 rfl) ((congr (congrArg F145 rfl) rfl).trans (t145 q3))).trans (t206 q4)) rfl)
-- 167 GlassWires solder (IZ)I
theorem v167_0 {E : gw_N} {N : NM} {res : Option Value × gw_H} {x1 : Int} {x2 : Int} (H : ((Q144 N x1) ∧ ((R (G144 N x1)) ∧ (((G144 N x1) = 0 → res = (some (.int (J (-101))), hs E (jm N))) ∧ (¬ (G144 N x1) = 0 → ((Q147 N x1) ∧ ((Q206 N (G147 N x1)) ∧ (∃ (N1 : NM), Rn 148 [.ref 14, .int (J x1), .int (J x2)] (hs E (jm N)) none (hs E (jm N1)) ∧ (∃ (N2 : NM), Rn 203 [.ref 8] (hs E (jm N1)) none (hs E (jm N2)) ∧ res = (some (.int (J (G206 N (G147 N x1)))), hs E (jm N2))))))))))) : Ev 7 167 0 [some (.ref 8), some (.int (J x1)), some (.int (J x2)), none] [] (hs E (jm N)) res := by
  refine w167_0 ?_
  obtain ⟨q1, H⟩ := H
  obtain ⟨q2, H⟩ := H
  refine ⟨fun hc => ?_, fun hc => ?_⟩
  · replace H := H.1 ((eq_J ((congr (congrArg F144 rfl) rfl).trans (t144 q1)) jl_0 q2 (by decide)).mp hc)
    exact H.trans (rt_i jl_m101 rfl)
  · replace H := H.2 (fun hz => hc ((eq_J ((congr (congrArg F144 rfl) rfl).trans (t144 q1)) jl_0 q2 (by decide)).mpr hz))
    obtain ⟨q3, H⟩ := H
    refine ⟨Eq.mpr (congr (congrArg P147 rfl) rfl) (p147 q3), ?_⟩
    obtain ⟨q4, H⟩ := H
    obtain ⟨N1, q6, H⟩ := H
    refine ⟨jm N1, Rn_to (clx (cai rfl (cai rfl rfl))) rfl rfl q6, ?_⟩
    obtain ⟨N2, q5, H⟩ := H
    refine ⟨jm N2, Rn_to (clx rfl) rfl rfl q5, ?_⟩
    exact H.trans (rt_i ((congr (congrArg F206 rfl) ((congr (congrArg F147 rfl) rfl).trans (t147 q3))).trans (t206 q4)) rfl)
-- 184 GlassWires fire (I)I
theorem v184_0 {E : gw_N} {N : NM} {res : Option Value × gw_H} {x1 : Int} (H : ((Q204 N x1) ∧ ((R (G204 N x1)) ∧ (((G204 N x1) = 0 → res = (some (.int (J (-102))), hs E (jm N))) ∧ (¬ (G204 N x1) = 0 → (∃ (r1 : Int) (N1 : NM), Rn 19 [.ref 44, .int (J x1)] (hs E (jm N)) (some (.int (J r1))) (hs E (jm N1)) ∧ res = (some (.int (J r1)), hs E (jm N1)))))))) : Ev 7 184 0 [some (.ref 8), some (.int (J x1))] [] (hs E (jm N)) res := by
  refine w184_0 ?_
  obtain ⟨q1, H⟩ := H
  obtain ⟨q2, H⟩ := H
  refine ⟨fun hc => ?_, fun hc => ?_⟩
  · replace H := H.1 ((eq_J ((congr (congrArg F204 rfl) rfl).trans (t204 q1)) jl_0 q2 (by decide)).mp hc)
    exact H.trans (rt_i jl_m102 rfl)
  · replace H := H.2 (fun hz => hc ((eq_J ((congr (congrArg F204 rfl) rfl).trans (t204 q1)) jl_0 q2 (by decide)).mpr hz))
    obtain ⟨r1, N1, q3, H⟩ := H
    refine ⟨J r1, jm N1, Rn_to (clx (cai rfl rfl)) rfl rfl q3, ?_⟩
    exact H.trans (rt_i rfl rfl)
-- 195 GlassWires cooling (I)I
theorem v195_0 {E : gw_N} {N : NM} {res : Option Value × gw_H} {x1 : Int} (H : ((Q205 N x1) ∧ ((R (G205 N x1)) ∧ (((G205 N x1) = 0 → res = (some (.int (J (-102))), hs E (jm N))) ∧ (¬ (G205 N x1) = 0 → (∃ (r1 : Int), Rn 138 [.ref 53, .int (J x1)] (hs E (jm N)) (some (.int (J r1))) (hs E (jm N)) ∧ res = (some (.int (J r1)), hs E (jm N)))))))) : Ev 7 195 0 [some (.ref 8), some (.int (J x1))] [] (hs E (jm N)) res := by
  refine w195_0 ?_
  obtain ⟨q1, H⟩ := H
  obtain ⟨q2, H⟩ := H
  refine ⟨fun hc => ?_, fun hc => ?_⟩
  · replace H := H.1 ((eq_J ((congr (congrArg F205 rfl) rfl).trans (t205 q1)) jl_0 q2 (by decide)).mp hc)
    exact H.trans (rt_i jl_m102 rfl)
  · replace H := H.2 (fun hz => hc ((eq_J ((congr (congrArg F205 rfl) rfl).trans (t205 q1)) jl_0 q2 (by decide)).mpr hz))
    obtain ⟨r1, q3, H⟩ := H
    refine ⟨J r1, Rn_to (clx (cai rfl rfl)) rfl rfl q3, ?_⟩
    exact H.trans (rt_i rfl rfl)
