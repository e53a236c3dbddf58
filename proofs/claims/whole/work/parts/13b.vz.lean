/-! by program (wpz.py): the formulas over the integers -/
-- 223 GlassWiresModel edgeOf (II)I
theorem v223_0 {E : gw_N} {N : NM} {res : Option Value × gw_H} {x1 : Int} {x2 : Int} (H : ((0 ≤ ((25 * x1) + x2) ∧ ((25 * x1) + x2) < 750) ∧ ((0 ≤ (((25 * x1) + x2) + 1) ∧ (((25 * x1) + x2) + 1) < 750) ∧ ((R ((N 61) (((25 * x1) + x2) + 1))) ∧ ((R ((N 61) ((25 * x1) + x2))) ∧ ((((N 61) (((25 * x1) + x2) + 1)) ≤ ((N 61) ((25 * x1) + x2)) → ((R ((N 62) (((25 * x1) + x2) + 1))) ∧ ((R ((N 62) ((25 * x1) + x2))) ∧ ((((N 62) (((25 * x1) + x2) + 1)) ≤ ((N 62) ((25 * x1) + x2)) → ((((N 61) ((25 * x1) + x2)) = ((N 61) (((25 * x1) + x2) + 1)) → res = (some (.int (J ((81 + (9 * ((N 62) (((25 * x1) + x2) + 1)))) + ((N 61) (((25 * x1) + x2) + 1))))), hs E (jm N))) ∧ (¬ ((N 61) ((25 * x1) + x2)) = ((N 61) (((25 * x1) + x2) + 1)) → res = (some (.int (J ((0 + (9 * ((N 62) (((25 * x1) + x2) + 1)))) + ((N 61) (((25 * x1) + x2) + 1))))), hs E (jm N))))) ∧ (¬ ((N 62) (((25 * x1) + x2) + 1)) ≤ ((N 62) ((25 * x1) + x2)) → ((((N 61) ((25 * x1) + x2)) = ((N 61) (((25 * x1) + x2) + 1)) → res = (some (.int (J ((81 + (9 * ((N 62) ((25 * x1) + x2)))) + ((N 61) (((25 * x1) + x2) + 1))))), hs E (jm N))) ∧ (¬ ((N 61) ((25 * x1) + x2)) = ((N 61) (((25 * x1) + x2) + 1)) → res = (some (.int (J ((0 + (9 * ((N 62) ((25 * x1) + x2)))) + ((N 61) (((25 * x1) + x2) + 1))))), hs E (jm N))))))))) ∧ (¬ ((N 61) (((25 * x1) + x2) + 1)) ≤ ((N 61) ((25 * x1) + x2)) → ((R ((N 62) (((25 * x1) + x2) + 1))) ∧ ((R ((N 62) ((25 * x1) + x2))) ∧ ((((N 62) (((25 * x1) + x2) + 1)) ≤ ((N 62) ((25 * x1) + x2)) → ((((N 61) ((25 * x1) + x2)) = ((N 61) (((25 * x1) + x2) + 1)) → res = (some (.int (J ((81 + (9 * ((N 62) (((25 * x1) + x2) + 1)))) + ((N 61) ((25 * x1) + x2))))), hs E (jm N))) ∧ (¬ ((N 61) ((25 * x1) + x2)) = ((N 61) (((25 * x1) + x2) + 1)) → res = (some (.int (J ((0 + (9 * ((N 62) (((25 * x1) + x2) + 1)))) + ((N 61) ((25 * x1) + x2))))), hs E (jm N))))) ∧ (¬ ((N 62) (((25 * x1) + x2) + 1)) ≤ ((N 62) ((25 * x1) + x2)) → ((((N 61) ((25 * x1) + x2)) = ((N 61) (((25 * x1) + x2) + 1)) → res = (some (.int (J ((81 + (9 * ((N 62) ((25 * x1) + x2)))) + ((N 61) ((25 * x1) + x2))))), hs E (jm N))) ∧ (¬ ((N 61) ((25 * x1) + x2)) = ((N 61) (((25 * x1) + x2) + 1)) → res = (some (.int (J ((0 + (9 * ((N 62) ((25 * x1) + x2)))) + ((N 61) ((25 * x1) + x2))))), hs E (jm N))))))))))))))) : Ev 1 223 0 [some (.ref 59), some (.int (J x1)), some (.int (J x2)), none, none, none] [] (hs E (jm N)) res := by
  refine w223_0 ?_
  obtain ⟨q1, H⟩ := H
  refine ⟨inb_J (add_J (mul_J jl_25 rfl) rfl) q1 (by decide), ?_⟩
  obtain ⟨q2, H⟩ := H
  refine ⟨inb_J (add_J (add_J (mul_J jl_25 rfl) rfl) jl_1) q2 (by decide), ?_⟩
  obtain ⟨q3, q4, H⟩ := H
  refine ⟨fun hc => ?_, fun hc => ?_⟩
  · replace H := H.1 ((le_J (rd_J (jf_base _ _) (add_J (add_J (mul_J jl_25 rfl) rfl) jl_1) q2 (by decide)) (rd_J (jf_base _ _) (add_J (mul_J jl_25 rfl) rfl) q1 (by decide)) q3 q4).mp hc)
    refine ⟨inb_J (add_J (add_J (mul_J jl_25 rfl) rfl) jl_1) q2 (by decide), ?_⟩
    refine ⟨inb_J (add_J (mul_J jl_25 rfl) rfl) q1 (by decide), ?_⟩
    refine ⟨inb_J (add_J (add_J (mul_J jl_25 rfl) rfl) jl_1) q2 (by decide), ?_⟩
    obtain ⟨q5, q6, H⟩ := H
    refine ⟨fun hc => ?_, fun hc => ?_⟩
    · replace H := H.1 ((le_J (rd_J (jf_base _ _) (add_J (add_J (mul_J jl_25 rfl) rfl) jl_1) q2 (by decide)) (rd_J (jf_base _ _) (add_J (mul_J jl_25 rfl) rfl) q1 (by decide)) q5 q6).mp hc)
      refine ⟨inb_J (add_J (add_J (mul_J jl_25 rfl) rfl) jl_1) q2 (by decide), ?_⟩
      refine ⟨inb_J (add_J (mul_J jl_25 rfl) rfl) q1 (by decide), ?_⟩
      refine ⟨inb_J (add_J (add_J (mul_J jl_25 rfl) rfl) jl_1) q2 (by decide), ?_⟩
      refine ⟨fun hc => ?_, fun hc => ?_⟩
      · replace H := H.1 ((eq_J (rd_J (jf_base _ _) (add_J (mul_J jl_25 rfl) rfl) q1 (by decide)) (rd_J (jf_base _ _) (add_J (add_J (mul_J jl_25 rfl) rfl) jl_1) q2 (by decide)) q4 q3).mp hc)
        exact H.trans (rt_i (add_J (add_J jl_81 (mul_J jl_9 (rd_J (jf_base _ _) (add_J (add_J (mul_J jl_25 rfl) rfl) jl_1) q2 (by decide)))) (rd_J (jf_base _ _) (add_J (add_J (mul_J jl_25 rfl) rfl) jl_1) q2 (by decide))) rfl)
      · replace H := H.2 (fun hz => hc ((eq_J (rd_J (jf_base _ _) (add_J (mul_J jl_25 rfl) rfl) q1 (by decide)) (rd_J (jf_base _ _) (add_J (add_J (mul_J jl_25 rfl) rfl) jl_1) q2 (by decide)) q4 q3).mpr hz))
        exact H.trans (rt_i (add_J (add_J jl_0 (mul_J jl_9 (rd_J (jf_base _ _) (add_J (add_J (mul_J jl_25 rfl) rfl) jl_1) q2 (by decide)))) (rd_J (jf_base _ _) (add_J (add_J (mul_J jl_25 rfl) rfl) jl_1) q2 (by decide))) rfl)
    · replace H := H.2 (fun hz => hc ((le_J (rd_J (jf_base _ _) (add_J (add_J (mul_J jl_25 rfl) rfl) jl_1) q2 (by decide)) (rd_J (jf_base _ _) (add_J (mul_J jl_25 rfl) rfl) q1 (by decide)) q5 q6).mpr hz))
      refine ⟨inb_J (add_J (mul_J jl_25 rfl) rfl) q1 (by decide), ?_⟩
      refine ⟨inb_J (add_J (mul_J jl_25 rfl) rfl) q1 (by decide), ?_⟩
      refine ⟨inb_J (add_J (add_J (mul_J jl_25 rfl) rfl) jl_1) q2 (by decide), ?_⟩
      refine ⟨fun hc => ?_, fun hc => ?_⟩
      · replace H := H.1 ((eq_J (rd_J (jf_base _ _) (add_J (mul_J jl_25 rfl) rfl) q1 (by decide)) (rd_J (jf_base _ _) (add_J (add_J (mul_J jl_25 rfl) rfl) jl_1) q2 (by decide)) q4 q3).mp hc)
        exact H.trans (rt_i (add_J (add_J jl_81 (mul_J jl_9 (rd_J (jf_base _ _) (add_J (mul_J jl_25 rfl) rfl) q1 (by decide)))) (rd_J (jf_base _ _) (add_J (add_J (mul_J jl_25 rfl) rfl) jl_1) q2 (by decide))) rfl)
      · replace H := H.2 (fun hz => hc ((eq_J (rd_J (jf_base _ _) (add_J (mul_J jl_25 rfl) rfl) q1 (by decide)) (rd_J (jf_base _ _) (add_J (add_J (mul_J jl_25 rfl) rfl) jl_1) q2 (by decide)) q4 q3).mpr hz))
        exact H.trans (rt_i (add_J (add_J jl_0 (mul_J jl_9 (rd_J (jf_base _ _) (add_J (mul_J jl_25 rfl) rfl) q1 (by decide)))) (rd_J (jf_base _ _) (add_J (add_J (mul_J jl_25 rfl) rfl) jl_1) q2 (by decide))) rfl)
  · replace H := H.2 (fun hz => hc ((le_J (rd_J (jf_base _ _) (add_J (add_J (mul_J jl_25 rfl) rfl) jl_1) q2 (by decide)) (rd_J (jf_base _ _) (add_J (mul_J jl_25 rfl) rfl) q1 (by decide)) q3 q4).mpr hz))
    refine ⟨inb_J (add_J (mul_J jl_25 rfl) rfl) q1 (by decide), ?_⟩
    refine ⟨inb_J (add_J (mul_J jl_25 rfl) rfl) q1 (by decide), ?_⟩
    refine ⟨inb_J (add_J (add_J (mul_J jl_25 rfl) rfl) jl_1) q2 (by decide), ?_⟩
    obtain ⟨q7, q8, H⟩ := H
    refine ⟨fun hc => ?_, fun hc => ?_⟩
    · replace H := H.1 ((le_J (rd_J (jf_base _ _) (add_J (add_J (mul_J jl_25 rfl) rfl) jl_1) q2 (by decide)) (rd_J (jf_base _ _) (add_J (mul_J jl_25 rfl) rfl) q1 (by decide)) q7 q8).mp hc)
      refine ⟨inb_J (add_J (add_J (mul_J jl_25 rfl) rfl) jl_1) q2 (by decide), ?_⟩
      refine ⟨inb_J (add_J (mul_J jl_25 rfl) rfl) q1 (by decide), ?_⟩
      refine ⟨inb_J (add_J (add_J (mul_J jl_25 rfl) rfl) jl_1) q2 (by decide), ?_⟩
      refine ⟨fun hc => ?_, fun hc => ?_⟩
      · replace H := H.1 ((eq_J (rd_J (jf_base _ _) (add_J (mul_J jl_25 rfl) rfl) q1 (by decide)) (rd_J (jf_base _ _) (add_J (add_J (mul_J jl_25 rfl) rfl) jl_1) q2 (by decide)) q4 q3).mp hc)
        exact H.trans (rt_i (add_J (add_J jl_81 (mul_J jl_9 (rd_J (jf_base _ _) (add_J (add_J (mul_J jl_25 rfl) rfl) jl_1) q2 (by decide)))) (rd_J (jf_base _ _) (add_J (mul_J jl_25 rfl) rfl) q1 (by decide))) rfl)
      · replace H := H.2 (fun hz => hc ((eq_J (rd_J (jf_base _ _) (add_J (mul_J jl_25 rfl) rfl) q1 (by decide)) (rd_J (jf_base _ _) (add_J (add_J (mul_J jl_25 rfl) rfl) jl_1) q2 (by decide)) q4 q3).mpr hz))
        exact H.trans (rt_i (add_J (add_J jl_0 (mul_J jl_9 (rd_J (jf_base _ _) (add_J (add_J (mul_J jl_25 rfl) rfl) jl_1) q2 (by decide)))) (rd_J (jf_base _ _) (add_J (mul_J jl_25 rfl) rfl) q1 (by decide))) rfl)
    · replace H := H.2 (fun hz => hc ((le_J (rd_J (jf_base _ _) (add_J (add_J (mul_J jl_25 rfl) rfl) jl_1) q2 (by decide)) (rd_J (jf_base _ _) (add_J (mul_J jl_25 rfl) rfl) q1 (by decide)) q7 q8).mpr hz))
      refine ⟨inb_J (add_J (mul_J jl_25 rfl) rfl) q1 (by decide), ?_⟩
      refine ⟨inb_J (add_J (mul_J jl_25 rfl) rfl) q1 (by decide), ?_⟩
      refine ⟨inb_J (add_J (add_J (mul_J jl_25 rfl) rfl) jl_1) q2 (by decide), ?_⟩
      refine ⟨fun hc => ?_, fun hc => ?_⟩
      · replace H := H.1 ((eq_J (rd_J (jf_base _ _) (add_J (mul_J jl_25 rfl) rfl) q1 (by decide)) (rd_J (jf_base _ _) (add_J (add_J (mul_J jl_25 rfl) rfl) jl_1) q2 (by decide)) q4 q3).mp hc)
        exact H.trans (rt_i (add_J (add_J jl_81 (mul_J jl_9 (rd_J (jf_base _ _) (add_J (mul_J jl_25 rfl) rfl) q1 (by decide)))) (rd_J (jf_base _ _) (add_J (mul_J jl_25 rfl) rfl) q1 (by decide))) rfl)
      · replace H := H.2 (fun hz => hc ((eq_J (rd_J (jf_base _ _) (add_J (mul_J jl_25 rfl) rfl) q1 (by decide)) (rd_J (jf_base _ _) (add_J (add_J (mul_J jl_25 rfl) rfl) jl_1) q2 (by decide)) q4 q3).mpr hz))
        exact H.trans (rt_i (add_J (add_J jl_0 (mul_J jl_9 (rd_J (jf_base _ _) (add_J (mul_J jl_25 rfl) rfl) q1 (by decide)))) (rd_J (jf_base _ _) (add_J (mul_J jl_25 rfl) rfl) q1 (by decide))) rfl)
def G223 (N : NM) (x1 : Int) (x2 : Int) : Int := (if ((N 61) (((25 * x1) + x2) + 1)) ≤ ((N 61) ((25 * x1) + x2)) then (if ((N 62) (((25 * x1) + x2) + 1)) ≤ ((N 62) ((25 * x1) + x2)) then (if ((N 61) ((25 * x1) + x2)) = ((N 61) (((25 * x1) + x2) + 1)) then ((81 + (9 * ((N 62) (((25 * x1) + x2) + 1)))) + ((N 61) (((25 * x1) + x2) + 1))) else ((0 + (9 * ((N 62) (((25 * x1) + x2) + 1)))) + ((N 61) (((25 * x1) + x2) + 1)))) else (if ((N 61) ((25 * x1) + x2)) = ((N 61) (((25 * x1) + x2) + 1)) then ((81 + (9 * ((N 62) ((25 * x1) + x2)))) + ((N 61) (((25 * x1) + x2) + 1))) else ((0 + (9 * ((N 62) ((25 * x1) + x2)))) + ((N 61) (((25 * x1) + x2) + 1))))) else (if ((N 62) (((25 * x1) + x2) + 1)) ≤ ((N 62) ((25 * x1) + x2)) then (if ((N 61) ((25 * x1) + x2)) = ((N 61) (((25 * x1) + x2) + 1)) then ((81 + (9 * ((N 62) (((25 * x1) + x2) + 1)))) + ((N 61) ((25 * x1) + x2))) else ((0 + (9 * ((N 62) (((25 * x1) + x2) + 1)))) + ((N 61) ((25 * x1) + x2)))) else (if ((N 61) ((25 * x1) + x2)) = ((N 61) (((25 * x1) + x2) + 1)) then ((81 + (9 * ((N 62) ((25 * x1) + x2)))) + ((N 61) ((25 * x1) + x2))) else ((0 + (9 * ((N 62) ((25 * x1) + x2)))) + ((N 61) ((25 * x1) + x2))))))
def Q223 (N : NM) (x1 : Int) (x2 : Int) : Prop := ((0 ≤ ((25 * x1) + x2) ∧ ((25 * x1) + x2) < 750) ∧ ((0 ≤ (((25 * x1) + x2) + 1) ∧ (((25 * x1) + x2) + 1) < 750) ∧ ((R ((N 61) (((25 * x1) + x2) + 1))) ∧ ((R ((N 61) ((25 * x1) + x2))) ∧ ((((N 61) (((25 * x1) + x2) + 1)) ≤ ((N 61) ((25 * x1) + x2)) → ((R ((N 62) (((25 * x1) + x2) + 1))) ∧ ((R ((N 62) ((25 * x1) + x2))) ∧ ((((N 62) (((25 * x1) + x2) + 1)) ≤ ((N 62) ((25 * x1) + x2)) → ((((N 61) ((25 * x1) + x2)) = ((N 61) (((25 * x1) + x2) + 1)) → True) ∧ (¬ ((N 61) ((25 * x1) + x2)) = ((N 61) (((25 * x1) + x2) + 1)) → True))) ∧ (¬ ((N 62) (((25 * x1) + x2) + 1)) ≤ ((N 62) ((25 * x1) + x2)) → ((((N 61) ((25 * x1) + x2)) = ((N 61) (((25 * x1) + x2) + 1)) → True) ∧ (¬ ((N 61) ((25 * x1) + x2)) = ((N 61) (((25 * x1) + x2) + 1)) → True))))))) ∧ (¬ ((N 61) (((25 * x1) + x2) + 1)) ≤ ((N 61) ((25 * x1) + x2)) → ((R ((N 62) (((25 * x1) + x2) + 1))) ∧ ((R ((N 62) ((25 * x1) + x2))) ∧ ((((N 62) (((25 * x1) + x2) + 1)) ≤ ((N 62) ((25 * x1) + x2)) → ((((N 61) ((25 * x1) + x2)) = ((N 61) (((25 * x1) + x2) + 1)) → True) ∧ (¬ ((N 61) ((25 * x1) + x2)) = ((N 61) (((25 * x1) + x2) + 1)) → True))) ∧ (¬ ((N 62) (((25 * x1) + x2) + 1)) ≤ ((N 62) ((25 * x1) + x2)) → ((((N 61) ((25 * x1) + x2)) = ((N 61) (((25 * x1) + x2) + 1)) → True) ∧ (¬ ((N 61) ((25 * x1) + x2)) = ((N 61) (((25 * x1) + x2) + 1)) → True))))))))))))
theorem t223 {N : NM} {x1 : Int} {x2 : Int} (H : Q223 N x1 x2) : F223 (jm N) (J x1) (J x2) = J (G223 N x1 x2) := by
  unfold Q223 at H
  unfold F223 G223
  obtain ⟨q1, H⟩ := H
  obtain ⟨q2, H⟩ := H
  obtain ⟨q3, q4, H⟩ := H
  refine ite_J (le_J (rd_J (jf_base _ _) (add_J (add_J (mul_J jl_25 rfl) rfl) jl_1) q2 (by decide)) (rd_J (jf_base _ _) (add_J (mul_J jl_25 rfl) rfl) q1 (by decide)) q3 q4) (fun hc => ?_) (fun hc => ?_)
  · replace H := H.1 ((le_J (rd_J (jf_base _ _) (add_J (add_J (mul_J jl_25 rfl) rfl) jl_1) q2 (by decide)) (rd_J (jf_base _ _) (add_J (mul_J jl_25 rfl) rfl) q1 (by decide)) q3 q4).mp hc)
    obtain ⟨q5, q6, H⟩ := H
    refine ite_J (le_J (rd_J (jf_base _ _) (add_J (add_J (mul_J jl_25 rfl) rfl) jl_1) q2 (by decide)) (rd_J (jf_base _ _) (add_J (mul_J jl_25 rfl) rfl) q1 (by decide)) q5 q6) (fun hc => ?_) (fun hc => ?_)
    · replace H := H.1 ((le_J (rd_J (jf_base _ _) (add_J (add_J (mul_J jl_25 rfl) rfl) jl_1) q2 (by decide)) (rd_J (jf_base _ _) (add_J (mul_J jl_25 rfl) rfl) q1 (by decide)) q5 q6).mp hc)
      refine ite_J (eq_J (rd_J (jf_base _ _) (add_J (mul_J jl_25 rfl) rfl) q1 (by decide)) (rd_J (jf_base _ _) (add_J (add_J (mul_J jl_25 rfl) rfl) jl_1) q2 (by decide)) q4 q3) (fun hc => ?_) (fun hc => ?_)
      · replace H := H.1 ((eq_J (rd_J (jf_base _ _) (add_J (mul_J jl_25 rfl) rfl) q1 (by decide)) (rd_J (jf_base _ _) (add_J (add_J (mul_J jl_25 rfl) rfl) jl_1) q2 (by decide)) q4 q3).mp hc)
        exact (add_J (add_J jl_81 (mul_J jl_9 (rd_J (jf_base _ _) (add_J (add_J (mul_J jl_25 rfl) rfl) jl_1) q2 (by decide)))) (rd_J (jf_base _ _) (add_J (add_J (mul_J jl_25 rfl) rfl) jl_1) q2 (by decide)))
      · replace H := H.2 (fun hz => hc ((eq_J (rd_J (jf_base _ _) (add_J (mul_J jl_25 rfl) rfl) q1 (by decide)) (rd_J (jf_base _ _) (add_J (add_J (mul_J jl_25 rfl) rfl) jl_1) q2 (by decide)) q4 q3).mpr hz))
        exact (add_J (add_J jl_0 (mul_J jl_9 (rd_J (jf_base _ _) (add_J (add_J (mul_J jl_25 rfl) rfl) jl_1) q2 (by decide)))) (rd_J (jf_base _ _) (add_J (add_J (mul_J jl_25 rfl) rfl) jl_1) q2 (by decide)))
    · replace H := H.2 (fun hz => hc ((le_J (rd_J (jf_base _ _) (add_J (add_J (mul_J jl_25 rfl) rfl) jl_1) q2 (by decide)) (rd_J (jf_base _ _) (add_J (mul_J jl_25 rfl) rfl) q1 (by decide)) q5 q6).mpr hz))
      refine ite_J (eq_J (rd_J (jf_base _ _) (add_J (mul_J jl_25 rfl) rfl) q1 (by decide)) (rd_J (jf_base _ _) (add_J (add_J (mul_J jl_25 rfl) rfl) jl_1) q2 (by decide)) q4 q3) (fun hc => ?_) (fun hc => ?_)
      · replace H := H.1 ((eq_J (rd_J (jf_base _ _) (add_J (mul_J jl_25 rfl) rfl) q1 (by decide)) (rd_J (jf_base _ _) (add_J (add_J (mul_J jl_25 rfl) rfl) jl_1) q2 (by decide)) q4 q3).mp hc)
        exact (add_J (add_J jl_81 (mul_J jl_9 (rd_J (jf_base _ _) (add_J (mul_J jl_25 rfl) rfl) q1 (by decide)))) (rd_J (jf_base _ _) (add_J (add_J (mul_J jl_25 rfl) rfl) jl_1) q2 (by decide)))
      · replace H := H.2 (fun hz => hc ((eq_J (rd_J (jf_base _ _) (add_J (mul_J jl_25 rfl) rfl) q1 (by decide)) (rd_J (jf_base _ _) (add_J (add_J (mul_J jl_25 rfl) rfl) jl_1) q2 (by decide)) q4 q3).mpr hz))
        exact (add_J (add_J jl_0 (mul_J jl_9 (rd_J (jf_base _ _) (add_J (mul_J jl_25 rfl) rfl) q1 (by decide)))) (rd_J (jf_base _ _) (add_J (add_J (mul_J jl_25 rfl) rfl) jl_1) q2 (by decide)))
  · replace H := H.2 (fun hz => hc ((le_J (rd_J (jf_base _ _) (add_J (add_J (mul_J jl_25 rfl) rfl) jl_1) q2 (by decide)) (rd_J (jf_base _ _) (add_J (mul_J jl_25 rfl) rfl) q1 (by decide)) q3 q4).mpr hz))
    obtain ⟨q7, q8, H⟩ := H
    refine ite_J (le_J (rd_J (jf_base _ _) (add_J (add_J (mul_J jl_25 rfl) rfl) jl_1) q2 (by decide)) (rd_J (jf_base _ _) (add_J (mul_J jl_25 rfl) rfl) q1 (by decide)) q7 q8) (fun hc => ?_) (fun hc => ?_)
    · replace H := H.1 ((le_J (rd_J (jf_base _ _) (add_J (add_J (mul_J jl_25 rfl) rfl) jl_1) q2 (by decide)) (rd_J (jf_base _ _) (add_J (mul_J jl_25 rfl) rfl) q1 (by decide)) q7 q8).mp hc)
      refine ite_J (eq_J (rd_J (jf_base _ _) (add_J (mul_J jl_25 rfl) rfl) q1 (by decide)) (rd_J (jf_base _ _) (add_J (add_J (mul_J jl_25 rfl) rfl) jl_1) q2 (by decide)) q4 q3) (fun hc => ?_) (fun hc => ?_)
      · replace H := H.1 ((eq_J (rd_J (jf_base _ _) (add_J (mul_J jl_25 rfl) rfl) q1 (by decide)) (rd_J (jf_base _ _) (add_J (add_J (mul_J jl_25 rfl) rfl) jl_1) q2 (by decide)) q4 q3).mp hc)
        exact (add_J (add_J jl_81 (mul_J jl_9 (rd_J (jf_base _ _) (add_J (add_J (mul_J jl_25 rfl) rfl) jl_1) q2 (by decide)))) (rd_J (jf_base _ _) (add_J (mul_J jl_25 rfl) rfl) q1 (by decide)))
      · replace H := H.2 (fun hz => hc ((eq_J (rd_J (jf_base _ _) (add_J (mul_J jl_25 rfl) rfl) q1 (by decide)) (rd_J (jf_base _ _) (add_J (add_J (mul_J jl_25 rfl) rfl) jl_1) q2 (by decide)) q4 q3).mpr hz))
        exact (add_J (add_J jl_0 (mul_J jl_9 (rd_J (jf_base _ _) (add_J (add_J (mul_J jl_25 rfl) rfl) jl_1) q2 (by decide)))) (rd_J (jf_base _ _) (add_J (mul_J jl_25 rfl) rfl) q1 (by decide)))
    · replace H := H.2 (fun hz => hc ((le_J (rd_J (jf_base _ _) (add_J (add_J (mul_J jl_25 rfl) rfl) jl_1) q2 (by decide)) (rd_J (jf_base _ _) (add_J (mul_J jl_25 rfl) rfl) q1 (by decide)) q7 q8).mpr hz))
      refine ite_J (eq_J (rd_J (jf_base _ _) (add_J (mul_J jl_25 rfl) rfl) q1 (by decide)) (rd_J (jf_base _ _) (add_J (add_J (mul_J jl_25 rfl) rfl) jl_1) q2 (by decide)) q4 q3) (fun hc => ?_) (fun hc => ?_)
      · replace H := H.1 ((eq_J (rd_J (jf_base _ _) (add_J (mul_J jl_25 rfl) rfl) q1 (by decide)) (rd_J (jf_base _ _) (add_J (add_J (mul_J jl_25 rfl) rfl) jl_1) q2 (by decide)) q4 q3).mp hc)
        exact (add_J (add_J jl_81 (mul_J jl_9 (rd_J (jf_base _ _) (add_J (mul_J jl_25 rfl) rfl) q1 (by decide)))) (rd_J (jf_base _ _) (add_J (mul_J jl_25 rfl) rfl) q1 (by decide)))
      · replace H := H.2 (fun hz => hc ((eq_J (rd_J (jf_base _ _) (add_J (mul_J jl_25 rfl) rfl) q1 (by decide)) (rd_J (jf_base _ _) (add_J (add_J (mul_J jl_25 rfl) rfl) jl_1) q2 (by decide)) q4 q3).mpr hz))
        exact (add_J (add_J jl_0 (mul_J jl_9 (rd_J (jf_base _ _) (add_J (mul_J jl_25 rfl) rfl) q1 (by decide)))) (rd_J (jf_base _ _) (add_J (mul_J jl_25 rfl) rfl) q1 (by decide)))
theorem p223 {N : NM} {x1 : Int} {x2 : Int} (H : Q223 N x1 x2) : P223 (jm N) (J x1) (J x2) := by
  unfold Q223 at H
  unfold P223
  obtain ⟨q1, H⟩ := H
  refine ⟨inb_J (add_J (mul_J jl_25 rfl) rfl) q1 (by decide), ?_⟩
  obtain ⟨q2, H⟩ := H
  refine ⟨inb_J (add_J (add_J (mul_J jl_25 rfl) rfl) jl_1) q2 (by decide), ?_⟩
  obtain ⟨q3, q4, H⟩ := H
  refine ⟨fun hc => ?_, fun hc => ?_⟩
  · replace H := H.1 ((le_J (rd_J (jf_base _ _) (add_J (add_J (mul_J jl_25 rfl) rfl) jl_1) q2 (by decide)) (rd_J (jf_base _ _) (add_J (mul_J jl_25 rfl) rfl) q1 (by decide)) q3 q4).mp hc)
    refine ⟨inb_J (add_J (add_J (mul_J jl_25 rfl) rfl) jl_1) q2 (by decide), ?_⟩
    refine ⟨inb_J (add_J (mul_J jl_25 rfl) rfl) q1 (by decide), ?_⟩
    refine ⟨inb_J (add_J (add_J (mul_J jl_25 rfl) rfl) jl_1) q2 (by decide), ?_⟩
    obtain ⟨q5, q6, H⟩ := H
    refine ⟨fun hc => ?_, fun hc => ?_⟩
    · replace H := H.1 ((le_J (rd_J (jf_base _ _) (add_J (add_J (mul_J jl_25 rfl) rfl) jl_1) q2 (by decide)) (rd_J (jf_base _ _) (add_J (mul_J jl_25 rfl) rfl) q1 (by decide)) q5 q6).mp hc)
      refine ⟨inb_J (add_J (add_J (mul_J jl_25 rfl) rfl) jl_1) q2 (by decide), ?_⟩
      refine ⟨inb_J (add_J (mul_J jl_25 rfl) rfl) q1 (by decide), ?_⟩
      exact inb_J (add_J (add_J (mul_J jl_25 rfl) rfl) jl_1) q2 (by decide)
    · replace H := H.2 (fun hz => hc ((le_J (rd_J (jf_base _ _) (add_J (add_J (mul_J jl_25 rfl) rfl) jl_1) q2 (by decide)) (rd_J (jf_base _ _) (add_J (mul_J jl_25 rfl) rfl) q1 (by decide)) q5 q6).mpr hz))
      refine ⟨inb_J (add_J (mul_J jl_25 rfl) rfl) q1 (by decide), ?_⟩
      refine ⟨inb_J (add_J (mul_J jl_25 rfl) rfl) q1 (by decide), ?_⟩
      exact inb_J (add_J (add_J (mul_J jl_25 rfl) rfl) jl_1) q2 (by decide)
  · replace H := H.2 (fun hz => hc ((le_J (rd_J (jf_base _ _) (add_J (add_J (mul_J jl_25 rfl) rfl) jl_1) q2 (by decide)) (rd_J (jf_base _ _) (add_J (mul_J jl_25 rfl) rfl) q1 (by decide)) q3 q4).mpr hz))
    refine ⟨inb_J (add_J (mul_J jl_25 rfl) rfl) q1 (by decide), ?_⟩
    refine ⟨inb_J (add_J (mul_J jl_25 rfl) rfl) q1 (by decide), ?_⟩
    refine ⟨inb_J (add_J (add_J (mul_J jl_25 rfl) rfl) jl_1) q2 (by decide), ?_⟩
    obtain ⟨q7, q8, H⟩ := H
    refine ⟨fun hc => ?_, fun hc => ?_⟩
    · replace H := H.1 ((le_J (rd_J (jf_base _ _) (add_J (add_J (mul_J jl_25 rfl) rfl) jl_1) q2 (by decide)) (rd_J (jf_base _ _) (add_J (mul_J jl_25 rfl) rfl) q1 (by decide)) q7 q8).mp hc)
      refine ⟨inb_J (add_J (add_J (mul_J jl_25 rfl) rfl) jl_1) q2 (by decide), ?_⟩
      refine ⟨inb_J (add_J (mul_J jl_25 rfl) rfl) q1 (by decide), ?_⟩
      exact inb_J (add_J (add_J (mul_J jl_25 rfl) rfl) jl_1) q2 (by decide)
    · replace H := H.2 (fun hz => hc ((le_J (rd_J (jf_base _ _) (add_J (add_J (mul_J jl_25 rfl) rfl) jl_1) q2 (by decide)) (rd_J (jf_base _ _) (add_J (mul_J jl_25 rfl) rfl) q1 (by decide)) q7 q8).mpr hz))
      refine ⟨inb_J (add_J (mul_J jl_25 rfl) rfl) q1 (by decide), ?_⟩
      refine ⟨inb_J (add_J (mul_J jl_25 rfl) rfl) q1 (by decide), ?_⟩
      exact inb_J (add_J (add_J (mul_J jl_25 rfl) rfl) jl_1) q2 (by decide)
theorem sz223 {E : gw_N} {N : NM} {x1 : Int} {x2 : Int} (H : Q223 N x1 x2) : Rn 223 [.ref 59, .int (J x1), .int (J x2)] (hs E (jm N)) (some (.int (J (G223 N x1 x2)))) (hs E (jm N)) := by
  have h := s223 (E := E) (M := jm N) (x1 := J x1) (x2 := J x2) (p223 H)
  rw [t223 H] at h
  exact h
-- 226 GlassWiresModel bendsOf (I)I
theorem v226_0 {E : gw_N} {N : NM} {res : Option Value × gw_H} {x1 : Int} (H : Ev 1 226 4 [some (.ref 59), some (.int (J x1)), some (.int (J 0)), some (.int (J 1)), none, none] [] (hs E (jm N)) res) : Ev 1 226 0 [some (.ref 59), some (.int (J x1)), none, none, none, none] [] (hs E (jm N)) res := by
  refine w226_0 ?_
  exact Ev_to (clx (cli rfl (cli jl_0 (cli jl_1 (clx (clx rfl)))))) rfl rfl H
theorem v226_4 {E : gw_N} {N : NM} {res : Option Value × gw_H} {x1 : Int} {x2 : Int} {x3 : Int} (H : ((0 ≤ x1 ∧ x1 < 30) ∧ ((R ((N 63) x1)) ∧ ((R x3) ∧ ((((N 63) x1) ≤ x3 → res = (some (.int (J x2)), hs E (jm N))) ∧ (¬ ((N 63) x1) ≤ x3 → ((0 ≤ (((25 * x1) + x3) + 1) ∧ (((25 * x1) + x3) + 1) < 750) ∧ ((0 ≤ ((25 * x1) + x3) ∧ ((25 * x1) + x3) < 750) ∧ ((0 ≤ (((25 * x1) + x3) - 1) ∧ (((25 * x1) + x3) - 1) < 750) ∧ ((R (((N 61) (((25 * x1) + x3) + 1)) - ((N 61) ((25 * x1) + x3)))) ∧ ((R (((N 61) ((25 * x1) + x3)) - ((N 61) (((25 * x1) + x3) - 1)))) ∧ (((((N 61) (((25 * x1) + x3) + 1)) - ((N 61) ((25 * x1) + x3))) = (((N 61) ((25 * x1) + x3)) - ((N 61) (((25 * x1) + x3) - 1))) → ((R (((N 62) (((25 * x1) + x3) + 1)) - ((N 62) ((25 * x1) + x3)))) ∧ ((R (((N 62) ((25 * x1) + x3)) - ((N 62) (((25 * x1) + x3) - 1)))) ∧ (((((N 62) (((25 * x1) + x3) + 1)) - ((N 62) ((25 * x1) + x3))) = (((N 62) ((25 * x1) + x3)) - ((N 62) (((25 * x1) + x3) - 1))) → Ev 1 226 4 [some (.ref 59), some (.int (J x1)), some (.int (J (x2 + 0))), some (.int (J (x3 + 1))), none, none] [] (hs E (jm N)) res) ∧ (¬ (((N 62) (((25 * x1) + x3) + 1)) - ((N 62) ((25 * x1) + x3))) = (((N 62) ((25 * x1) + x3)) - ((N 62) (((25 * x1) + x3) - 1))) → Ev 1 226 4 [some (.ref 59), some (.int (J x1)), some (.int (J (x2 + 1))), some (.int (J (x3 + 1))), none, none] [] (hs E (jm N)) res))))) ∧ (¬ (((N 61) (((25 * x1) + x3) + 1)) - ((N 61) ((25 * x1) + x3))) = (((N 61) ((25 * x1) + x3)) - ((N 61) (((25 * x1) + x3) - 1))) → Ev 1 226 4 [some (.ref 59), some (.int (J x1)), some (.int (J (x2 + 1))), some (.int (J (x3 + 1))), none, none] [] (hs E (jm N)) res))))))))))))) : Ev 1 226 4 [some (.ref 59), some (.int (J x1)), some (.int (J x2)), some (.int (J x3)), none, none] [] (hs E (jm N)) res := by
  refine w226_4 ?_
  obtain ⟨q1, H⟩ := H
  refine ⟨inb_J rfl q1 (by decide), ?_⟩
  obtain ⟨q2, q3, H⟩ := H
  refine ⟨fun hc => ?_, fun hc => ?_⟩
  · replace H := H.1 ((le_J (rd_J (jf_base _ _) rfl q1 (by decide)) rfl q2 q3).mp hc)
    exact H.trans (rt_i rfl rfl)
  · replace H := H.2 (fun hz => hc ((le_J (rd_J (jf_base _ _) rfl q1 (by decide)) rfl q2 q3).mpr hz))
    obtain ⟨q4, H⟩ := H
    refine ⟨inb_J (add_J (add_J (mul_J jl_25 rfl) rfl) jl_1) q4 (by decide), ?_⟩
    obtain ⟨q5, H⟩ := H
    refine ⟨inb_J (add_J (mul_J jl_25 rfl) rfl) q5 (by decide), ?_⟩
    refine ⟨inb_J (add_J (mul_J jl_25 rfl) rfl) q5 (by decide), ?_⟩
    obtain ⟨q6, H⟩ := H
    refine ⟨inb_J (sub_J (add_J (mul_J jl_25 rfl) rfl) jl_1) q6 (by decide), ?_⟩
    obtain ⟨q7, q8, H⟩ := H
    refine ⟨fun hc => ?_, fun hc => ?_⟩
    · replace H := H.1 ((eq_J (sub_J (rd_J (jf_base _ _) (add_J (add_J (mul_J jl_25 rfl) rfl) jl_1) q4 (by decide)) (rd_J (jf_base _ _) (add_J (mul_J jl_25 rfl) rfl) q5 (by decide))) (sub_J (rd_J (jf_base _ _) (add_J (mul_J jl_25 rfl) rfl) q5 (by decide)) (rd_J (jf_base _ _) (sub_J (add_J (mul_J jl_25 rfl) rfl) jl_1) q6 (by decide))) q7 q8).mp hc)
      refine ⟨inb_J (add_J (add_J (mul_J jl_25 rfl) rfl) jl_1) q4 (by decide), ?_⟩
      refine ⟨inb_J (add_J (mul_J jl_25 rfl) rfl) q5 (by decide), ?_⟩
      refine ⟨inb_J (add_J (mul_J jl_25 rfl) rfl) q5 (by decide), ?_⟩
      refine ⟨inb_J (sub_J (add_J (mul_J jl_25 rfl) rfl) jl_1) q6 (by decide), ?_⟩
      obtain ⟨q9, q10, H⟩ := H
      refine ⟨fun hc => ?_, fun hc => ?_⟩
      · replace H := H.1 ((eq_J (sub_J (rd_J (jf_base _ _) (add_J (add_J (mul_J jl_25 rfl) rfl) jl_1) q4 (by decide)) (rd_J (jf_base _ _) (add_J (mul_J jl_25 rfl) rfl) q5 (by decide))) (sub_J (rd_J (jf_base _ _) (add_J (mul_J jl_25 rfl) rfl) q5 (by decide)) (rd_J (jf_base _ _) (sub_J (add_J (mul_J jl_25 rfl) rfl) jl_1) q6 (by decide))) q9 q10).mp hc)
        exact Ev_to (clx (cli rfl (cli (add_J rfl jl_0) (cli (add_J rfl jl_1) (clx (clx rfl)))))) rfl rfl H
      · replace H := H.2 (fun hz => hc ((eq_J (sub_J (rd_J (jf_base _ _) (add_J (add_J (mul_J jl_25 rfl) rfl) jl_1) q4 (by decide)) (rd_J (jf_base _ _) (add_J (mul_J jl_25 rfl) rfl) q5 (by decide))) (sub_J (rd_J (jf_base _ _) (add_J (mul_J jl_25 rfl) rfl) q5 (by decide)) (rd_J (jf_base _ _) (sub_J (add_J (mul_J jl_25 rfl) rfl) jl_1) q6 (by decide))) q9 q10).mpr hz))
        exact Ev_to (clx (cli rfl (cli (add_J rfl jl_1) (cli (add_J rfl jl_1) (clx (clx rfl)))))) rfl rfl H
    · replace H := H.2 (fun hz => hc ((eq_J (sub_J (rd_J (jf_base _ _) (add_J (add_J (mul_J jl_25 rfl) rfl) jl_1) q4 (by decide)) (rd_J (jf_base _ _) (add_J (mul_J jl_25 rfl) rfl) q5 (by decide))) (sub_J (rd_J (jf_base _ _) (add_J (mul_J jl_25 rfl) rfl) q5 (by decide)) (rd_J (jf_base _ _) (sub_J (add_J (mul_J jl_25 rfl) rfl) jl_1) q6 (by decide))) q7 q8).mpr hz))
      exact Ev_to (clx (cli rfl (cli (add_J rfl jl_1) (cli (add_J rfl jl_1) (clx (clx rfl)))))) rfl rfl H
-- 228 GlassWiresModel comesTo (III)Z
theorem v228_0 {E : gw_N} {N : NM} {res : Option Value × gw_H} {x1 : Int} {x2 : Int} {x3 : Int} (H : Ev 1 228 6 [some (.ref 59), some (.int (J x1)), some (.int (J x2)), some (.int (J x3)), some (.int (J 0)), some (.int (J 0))] [] (hs E (jm N)) res) : Ev 1 228 0 [some (.ref 59), some (.int (J x1)), some (.int (J x2)), some (.int (J x3)), none, none] [] (hs E (jm N)) res := by
  refine w228_0 ?_
  exact Ev_to (clx (cli rfl (cli rfl (cli rfl (cli jl_0 (cli jl_0 rfl)))))) rfl rfl H
theorem v228_6 {E : gw_N} {N : NM} {res : Option Value × gw_H} {x1 : Int} {x2 : Int} {x3 : Int} {x4 : Int} {x5 : Int} (H : ((0 ≤ x1 ∧ x1 < 30) ∧ ((R ((N 63) x1)) ∧ ((R x5) ∧ ((((N 63) x1) < x5 → ((x4 = 0 ∨ x4 = 1) ∧ res = (some (.int (J x4)), hs E (jm N)))) ∧ (¬ ((N 63) x1) < x5 → ((R x4) ∧ ((x4 = 0 → ((0 ≤ ((25 * x1) + x5) ∧ ((25 * x1) + x5) < 750) ∧ ((R ((N 61) ((25 * x1) + x5))) ∧ ((R x2) ∧ ((((N 61) ((25 * x1) + x5)) = x2 → ((R ((N 62) ((25 * x1) + x5))) ∧ ((R x3) ∧ ((((N 62) ((25 * x1) + x5)) = x3 → Ev 1 228 6 [some (.ref 59), some (.int (J x1)), some (.int (J x2)), some (.int (J x3)), some (.int (J 1)), some (.int (J (x5 + 1)))] [] (hs E (jm N)) res) ∧ (¬ ((N 62) ((25 * x1) + x5)) = x3 → Ev 1 228 6 [some (.ref 59), some (.int (J x1)), some (.int (J x2)), some (.int (J x3)), some (.int (J 0)), some (.int (J (x5 + 1)))] [] (hs E (jm N)) res))))) ∧ (¬ ((N 61) ((25 * x1) + x5)) = x2 → Ev 1 228 6 [some (.ref 59), some (.int (J x1)), some (.int (J x2)), some (.int (J x3)), some (.int (J 0)), some (.int (J (x5 + 1)))] [] (hs E (jm N)) res)))))) ∧ (¬ x4 = 0 → Ev 1 228 6 [some (.ref 59), some (.int (J x1)), some (.int (J x2)), some (.int (J x3)), some (.int (J 1)), some (.int (J (x5 + 1)))] [] (hs E (jm N)) res))))))))) : Ev 1 228 6 [some (.ref 59), some (.int (J x1)), some (.int (J x2)), some (.int (J x3)), some (.int (J x4)), some (.int (J x5))] [] (hs E (jm N)) res := by
  refine w228_6 ?_
  obtain ⟨q1, H⟩ := H
  refine ⟨inb_J rfl q1 (by decide), ?_⟩
  obtain ⟨q2, q3, H⟩ := H
  refine ⟨fun hc => ?_, fun hc => ?_⟩
  · replace H := H.1 ((lt_J (rd_J (jf_base _ _) rfl q1 (by decide)) rfl q2 q3).mp hc)
    obtain ⟨q4, H⟩ := H
    refine ⟨bb_J rfl q4, ?_⟩
    exact H.trans (rt_i rfl rfl)
  · replace H := H.2 (fun hz => hc ((lt_J (rd_J (jf_base _ _) rfl q1 (by decide)) rfl q2 q3).mpr hz))
    obtain ⟨q5, H⟩ := H
    refine ⟨fun hc => ?_, fun hc => ?_⟩
    · replace H := H.1 ((eq_J rfl jl_0 q5 (by decide)).mp hc)
      obtain ⟨q6, H⟩ := H
      refine ⟨inb_J (add_J (mul_J jl_25 rfl) rfl) q6 (by decide), ?_⟩
      obtain ⟨q7, q8, H⟩ := H
      refine ⟨fun hc => ?_, fun hc => ?_⟩
      · replace H := H.1 ((eq_J (rd_J (jf_base _ _) (add_J (mul_J jl_25 rfl) rfl) q6 (by decide)) rfl q7 q8).mp hc)
        refine ⟨inb_J (add_J (mul_J jl_25 rfl) rfl) q6 (by decide), ?_⟩
        obtain ⟨q9, q10, H⟩ := H
        refine ⟨fun hc => ?_, fun hc => ?_⟩
        · replace H := H.1 ((eq_J (rd_J (jf_base _ _) (add_J (mul_J jl_25 rfl) rfl) q6 (by decide)) rfl q9 q10).mp hc)
          exact Ev_to (clx (cli rfl (cli rfl (cli rfl (cli jl_1 (cli (add_J rfl jl_1) rfl)))))) rfl rfl H
        · replace H := H.2 (fun hz => hc ((eq_J (rd_J (jf_base _ _) (add_J (mul_J jl_25 rfl) rfl) q6 (by decide)) rfl q9 q10).mpr hz))
          exact Ev_to (clx (cli rfl (cli rfl (cli rfl (cli jl_0 (cli (add_J rfl jl_1) rfl)))))) rfl rfl H
      · replace H := H.2 (fun hz => hc ((eq_J (rd_J (jf_base _ _) (add_J (mul_J jl_25 rfl) rfl) q6 (by decide)) rfl q7 q8).mpr hz))
        exact Ev_to (clx (cli rfl (cli rfl (cli rfl (cli jl_0 (cli (add_J rfl jl_1) rfl)))))) rfl rfl H
    · replace H := H.2 (fun hz => hc ((eq_J rfl jl_0 q5 (by decide)).mpr hz))
      exact Ev_to (clx (cli rfl (cli rfl (cli rfl (cli jl_1 (cli (add_J rfl jl_1) rfl)))))) rfl rfl H
-- 235 GlassWiresModel edge (III)I
theorem v235_0 {E : gw_N} {N : NM} {res : Option Value × gw_H} {x0 : Int} {x1 : Int} {x2 : Int} (H : res = (some (.int (J (((81 * x2) + (9 * x1)) + x0))), hs E (jm N))) : Ev 1 235 0 [some (.int (J x0)), some (.int (J x1)), some (.int (J x2))] [] (hs E (jm N)) res := by
  refine w235_0 ?_
  exact H.trans (rt_i (add_J (add_J (mul_J jl_81 rfl) (mul_J jl_9 rfl)) rfl) rfl)
def G235 (N : NM) (x0 : Int) (x1 : Int) (x2 : Int) : Int := (((81 * x2) + (9 * x1)) + x0)
theorem t235 {N : NM} {x0 : Int} {x1 : Int} {x2 : Int} : F235 (jm N) (J x0) (J x1) (J x2) = J (G235 N x0 x1 x2) := by
  have H : True := trivial
  unfold F235 G235
  exact (add_J (add_J (mul_J jl_81 rfl) (mul_J jl_9 rfl)) rfl)
theorem sz235 {E : gw_N} {N : NM} {x0 : Int} {x1 : Int} {x2 : Int} : Rn 235 [.int (J x0), .int (J x1), .int (J x2)] (hs E (jm N)) (some (.int (J (G235 N x0 x1 x2)))) (hs E (jm N)) := by
  have h := s235 (E := E) (M := jm N) (x0 := J x0) (x1 := J x1) (x2 := J x2)
  rw [t235] at h
  exact h
-- 243 GlassWiresModel fields ()I
theorem v243_0 {E : gw_N} {N : NM} {res : Option Value × gw_H}  (H : res = (some (.int (J (((N 59) 0) * ((N 59) 1)))), hs E (jm N))) : Ev 1 243 0 [some (.ref 59)] [] (hs E (jm N)) res := by
  refine w243_0 ?_
  exact H.trans (rt_i (mul_J (fld_J (jf_base _ _)) (fld_J (jf_base _ _))) rfl)
def G243 (N : NM) : Int := (((N 59) 0) * ((N 59) 1))
theorem t243 {N : NM} : F243 (jm N) = J (G243 N) := by
  have H : True := trivial
  unfold F243 G243
  exact (mul_J (fld_J (jf_base _ _)) (fld_J (jf_base _ _)))
theorem sz243 {E : gw_N} {N : NM} : Rn 243 [.ref 59] (hs E (jm N)) (some (.int (J (G243 N)))) (hs E (jm N)) := by
  have h := s243 (E := E) (M := jm N)
  rw [t243] at h
  exact h
-- 245 GlassWiresModel beside (II)I
theorem v245_0 {E : gw_N} {N : NM} {res : Option Value × gw_H} {x1 : Int} {x2 : Int} (H : ((R x2) ∧ ((x2 = 0 → ((R ((N 59) 0)) ∧ ((0 < ((N 59) 0)) ∧ ((R x1) ∧ ((R ((Int.tmod x1 ((N 59) 0)) + 1)) ∧ ((((N 59) 0) ≤ ((Int.tmod x1 ((N 59) 0)) + 1) → res = (some (.int (J (-1))), hs E (jm N))) ∧ (¬ ((N 59) 0) ≤ ((Int.tmod x1 ((N 59) 0)) + 1) → res = (some (.int (J (x1 + 1))), hs E (jm N))))))))) ∧ (¬ x2 = 0 → ((R ((N 59) 0)) ∧ ((0 < ((N 59) 0)) ∧ ((R ((N 59) 1)) ∧ ((R x1) ∧ ((R ((Int.tdiv x1 ((N 59) 0)) + 1)) ∧ ((((N 59) 1) ≤ ((Int.tdiv x1 ((N 59) 0)) + 1) → res = (some (.int (J (-1))), hs E (jm N))) ∧ (¬ ((N 59) 1) ≤ ((Int.tdiv x1 ((N 59) 0)) + 1) → res = (some (.int (J (x1 + ((N 59) 0)))), hs E (jm N))))))))))))) : Ev 1 245 0 [some (.ref 59), some (.int (J x1)), some (.int (J x2))] [] (hs E (jm N)) res := by
  refine w245_0 ?_
  obtain ⟨q1, H⟩ := H
  refine ⟨fun hc => ?_, fun hc => ?_⟩
  · replace H := H.1 ((eq_J rfl jl_0 q1 (by decide)).mp hc)
    obtain ⟨q2, q3, H⟩ := H
    refine ⟨nz_J (fld_J (jf_base _ _)) q2 q3, ?_⟩
    obtain ⟨q4, q5, H⟩ := H
    refine ⟨fun hc => ?_, fun hc => ?_⟩
    · replace H := H.1 ((le_J (fld_J (jf_base _ _)) (add_J (rem_J rfl (fld_J (jf_base _ _)) q4 q2 q3) jl_1) q2 q5).mp hc)
      exact H.trans (rt_i jl_m1 rfl)
    · replace H := H.2 (fun hz => hc ((le_J (fld_J (jf_base _ _)) (add_J (rem_J rfl (fld_J (jf_base _ _)) q4 q2 q3) jl_1) q2 q5).mpr hz))
      exact H.trans (rt_i (add_J rfl jl_1) rfl)
  · replace H := H.2 (fun hz => hc ((eq_J rfl jl_0 q1 (by decide)).mpr hz))
    obtain ⟨q6, q7, H⟩ := H
    refine ⟨nz_J (fld_J (jf_base _ _)) q6 q7, ?_⟩
    obtain ⟨q8, q9, q10, H⟩ := H
    refine ⟨fun hc => ?_, fun hc => ?_⟩
    · replace H := H.1 ((le_J (fld_J (jf_base _ _)) (add_J (div_J rfl (fld_J (jf_base _ _)) q9 q6 q7) jl_1) q8 q10).mp hc)
      exact H.trans (rt_i jl_m1 rfl)
    · replace H := H.2 (fun hz => hc ((le_J (fld_J (jf_base _ _)) (add_J (div_J rfl (fld_J (jf_base _ _)) q9 q6 q7) jl_1) q8 q10).mpr hz))
      exact H.trans (rt_i (add_J rfl (fld_J (jf_base _ _))) rfl)
def G245 (N : NM) (x1 : Int) (x2 : Int) : Int := (if x2 = 0 then (if ((N 59) 0) ≤ ((Int.tmod x1 ((N 59) 0)) + 1) then (-1) else (x1 + 1)) else (if ((N 59) 1) ≤ ((Int.tdiv x1 ((N 59) 0)) + 1) then (-1) else (x1 + ((N 59) 0))))
def Q245 (N : NM) (x1 : Int) (x2 : Int) : Prop := ((R x2) ∧ ((x2 = 0 → ((R ((N 59) 0)) ∧ ((0 < ((N 59) 0)) ∧ ((R x1) ∧ ((R ((Int.tmod x1 ((N 59) 0)) + 1)) ∧ ((((N 59) 0) ≤ ((Int.tmod x1 ((N 59) 0)) + 1) → True) ∧ (¬ ((N 59) 0) ≤ ((Int.tmod x1 ((N 59) 0)) + 1) → True))))))) ∧ (¬ x2 = 0 → ((R ((N 59) 0)) ∧ ((0 < ((N 59) 0)) ∧ ((R ((N 59) 1)) ∧ ((R x1) ∧ ((R ((Int.tdiv x1 ((N 59) 0)) + 1)) ∧ ((((N 59) 1) ≤ ((Int.tdiv x1 ((N 59) 0)) + 1) → True) ∧ (¬ ((N 59) 1) ≤ ((Int.tdiv x1 ((N 59) 0)) + 1) → True))))))))))
theorem t245 {N : NM} {x1 : Int} {x2 : Int} (H : Q245 N x1 x2) : F245 (jm N) (J x1) (J x2) = J (G245 N x1 x2) := by
  unfold Q245 at H
  unfold F245 G245
  obtain ⟨q1, H⟩ := H
  refine ite_J (eq_J rfl jl_0 q1 (by decide)) (fun hc => ?_) (fun hc => ?_)
  · replace H := H.1 ((eq_J rfl jl_0 q1 (by decide)).mp hc)
    obtain ⟨q2, q3, H⟩ := H
    obtain ⟨q4, q5, H⟩ := H
    refine ite_J (le_J (fld_J (jf_base _ _)) (add_J (rem_J rfl (fld_J (jf_base _ _)) q4 q2 q3) jl_1) q2 q5) (fun hc => ?_) (fun hc => ?_)
    · replace H := H.1 ((le_J (fld_J (jf_base _ _)) (add_J (rem_J rfl (fld_J (jf_base _ _)) q4 q2 q3) jl_1) q2 q5).mp hc)
      exact jl_m1
    · replace H := H.2 (fun hz => hc ((le_J (fld_J (jf_base _ _)) (add_J (rem_J rfl (fld_J (jf_base _ _)) q4 q2 q3) jl_1) q2 q5).mpr hz))
      exact (add_J rfl jl_1)
  · replace H := H.2 (fun hz => hc ((eq_J rfl jl_0 q1 (by decide)).mpr hz))
    obtain ⟨q6, q7, H⟩ := H
    obtain ⟨q8, q9, q10, H⟩ := H
    refine ite_J (le_J (fld_J (jf_base _ _)) (add_J (div_J rfl (fld_J (jf_base _ _)) q9 q6 q7) jl_1) q8 q10) (fun hc => ?_) (fun hc => ?_)
    · replace H := H.1 ((le_J (fld_J (jf_base _ _)) (add_J (div_J rfl (fld_J (jf_base _ _)) q9 q6 q7) jl_1) q8 q10).mp hc)
      exact jl_m1
    · replace H := H.2 (fun hz => hc ((le_J (fld_J (jf_base _ _)) (add_J (div_J rfl (fld_J (jf_base _ _)) q9 q6 q7) jl_1) q8 q10).mpr hz))
      exact (add_J rfl (fld_J (jf_base _ _)))
theorem p245 {N : NM} {x1 : Int} {x2 : Int} (H : Q245 N x1 x2) : P245 (jm N) (J x1) (J x2) := by
  unfold Q245 at H
  unfold P245
  obtain ⟨q1, H⟩ := H
  refine ⟨fun hc => ?_, fun hc => ?_⟩
  · replace H := H.1 ((eq_J rfl jl_0 q1 (by decide)).mp hc)
    obtain ⟨q2, q3, H⟩ := H
    exact nz_J (fld_J (jf_base _ _)) q2 q3
  · replace H := H.2 (fun hz => hc ((eq_J rfl jl_0 q1 (by decide)).mpr hz))
    obtain ⟨q4, q5, H⟩ := H
    exact nz_J (fld_J (jf_base _ _)) q4 q5
theorem sz245 {E : gw_N} {N : NM} {x1 : Int} {x2 : Int} (H : Q245 N x1 x2) : Rn 245 [.ref 59, .int (J x1), .int (J x2)] (hs E (jm N)) (some (.int (J (G245 N x1 x2)))) (hs E (jm N)) := by
  have h := s245 (E := E) (M := jm N) (x1 := J x1) (x2 := J x2) (p245 H)
  rw [t245 H] at h
  exact h
-- 254 GlassWiresModel placeOf (I)I
theorem v254_0 {E : gw_N} {N : NM} {res : Option Value × gw_H} {x1 : Int} (H : Ev 1 254 2 [some (.ref 59), some (.int (J x1)), some (.int (J 0))] [] (hs E (jm N)) res) : Ev 1 254 0 [some (.ref 59), some (.int (J x1)), none] [] (hs E (jm N)) res := by
  refine w254_0 ?_
  exact Ev_to (clx (cli rfl (cli jl_0 rfl))) rfl rfl H
theorem v254_2 {E : gw_N} {N : NM} {res : Option Value × gw_H} {x1 : Int} {x2 : Int} (H : ((0 ≤ x2 ∧ x2 < 64) ∧ ((R ((N 70) x2)) ∧ ((R x1) ∧ ((((N 70) x2) = x1 → res = (some (.int (J x2)), hs E (jm N))) ∧ (¬ ((N 70) x2) = x1 → Ev 1 254 2 [some (.ref 59), some (.int (J x1)), some (.int (J (x2 + 1)))] [] (hs E (jm N)) res)))))) : Ev 1 254 2 [some (.ref 59), some (.int (J x1)), some (.int (J x2))] [] (hs E (jm N)) res := by
  refine w254_2 ?_
  obtain ⟨q1, H⟩ := H
  refine ⟨inb_J rfl q1 (by decide), ?_⟩
  obtain ⟨q2, q3, H⟩ := H
  refine ⟨fun hc => ?_, fun hc => ?_⟩
  · replace H := H.1 ((eq_J (rd_J (jf_base _ _) rfl q1 (by decide)) rfl q2 q3).mp hc)
    exact H.trans (rt_i rfl rfl)
  · replace H := H.2 (fun hz => hc ((eq_J (rd_J (jf_base _ _) rfl q1 (by decide)) rfl q2 q3).mpr hz))
    exact Ev_to (clx (cli rfl (cli (add_J rfl jl_1) rfl))) rfl rfl H
-- 256 GlassWiresModel clashes (I)Z
theorem v256_0 {E : gw_N} {N : NM} {res : Option Value × gw_H} {x1 : Int} (H : Ev 1 256 4 [some (.ref 59), some (.int (J x1)), some (.int (J 0)), some (.int (J 0))] [] (hs E (jm N)) res) : Ev 1 256 0 [some (.ref 59), some (.int (J x1)), none, none] [] (hs E (jm N)) res := by
  refine w256_0 ?_
  exact Ev_to (clx (cli rfl (cli jl_0 (cli jl_0 rfl)))) rfl rfl H
theorem v256_4 {E : gw_N} {N : NM} {res : Option Value × gw_H} {x1 : Int} {x2 : Int} {x3 : Int} (H : ((R x1) ∧ ((R x3) ∧ ((x1 ≤ x3 → ((x2 = 0 ∨ x2 = 1) ∧ res = (some (.int (J x2)), hs E (jm N)))) ∧ (¬ x1 ≤ x3 → ((R x2) ∧ ((x2 = 0 → ((0 ≤ ((10 * x1) + x3) ∧ ((10 * x1) + x3) < 100) ∧ ((R ((N 71) ((10 * x1) + x3))) ∧ ((((N 71) ((10 * x1) + x3)) = 0 → Ev 1 256 4 [some (.ref 59), some (.int (J x1)), some (.int (J 0)), some (.int (J (x3 + 1)))] [] (hs E (jm N)) res) ∧ (¬ ((N 71) ((10 * x1) + x3)) = 0 → ((0 ≤ x3 ∧ x3 < 10) ∧ ((0 ≤ x1 ∧ x1 < 10) ∧ ((R ((N 72) x3)) ∧ ((R ((N 72) x1)) ∧ ((((N 72) x3) = ((N 72) x1) → Ev 1 256 4 [some (.ref 59), some (.int (J x1)), some (.int (J 1)), some (.int (J (x3 + 1)))] [] (hs E (jm N)) res) ∧ (¬ ((N 72) x3) = ((N 72) x1) → Ev 1 256 4 [some (.ref 59), some (.int (J x1)), some (.int (J 0)), some (.int (J (x3 + 1)))] [] (hs E (jm N)) res))))))))))) ∧ (¬ x2 = 0 → Ev 1 256 4 [some (.ref 59), some (.int (J x1)), some (.int (J 1)), some (.int (J (x3 + 1)))] [] (hs E (jm N)) res)))))))) : Ev 1 256 4 [some (.ref 59), some (.int (J x1)), some (.int (J x2)), some (.int (J x3))] [] (hs E (jm N)) res := by
  refine w256_4 ?_
  obtain ⟨q1, q2, H⟩ := H
  refine ⟨fun hc => ?_, fun hc => ?_⟩
  · replace H := H.1 ((le_J rfl rfl q1 q2).mp hc)
    obtain ⟨q3, H⟩ := H
    refine ⟨bb_J rfl q3, ?_⟩
    exact H.trans (rt_i rfl rfl)
  · replace H := H.2 (fun hz => hc ((le_J rfl rfl q1 q2).mpr hz))
    obtain ⟨q4, H⟩ := H
    refine ⟨fun hc => ?_, fun hc => ?_⟩
    · replace H := H.1 ((eq_J rfl jl_0 q4 (by decide)).mp hc)
      obtain ⟨q5, H⟩ := H
      refine ⟨inb_J (add_J (mul_J jl_10 rfl) rfl) q5 (by decide), ?_⟩
      obtain ⟨q6, H⟩ := H
      refine ⟨fun hc => ?_, fun hc => ?_⟩
      · replace H := H.1 ((eq_J (rd_J (jf_base _ _) (add_J (mul_J jl_10 rfl) rfl) q5 (by decide)) jl_0 q6 (by decide)).mp hc)
        exact Ev_to (clx (cli rfl (cli jl_0 (cli (add_J rfl jl_1) rfl)))) rfl rfl H
      · replace H := H.2 (fun hz => hc ((eq_J (rd_J (jf_base _ _) (add_J (mul_J jl_10 rfl) rfl) q5 (by decide)) jl_0 q6 (by decide)).mpr hz))
        obtain ⟨q7, H⟩ := H
        refine ⟨inb_J rfl q7 (by decide), ?_⟩
        obtain ⟨q8, H⟩ := H
        refine ⟨inb_J rfl q8 (by decide), ?_⟩
        obtain ⟨q9, q10, H⟩ := H
        refine ⟨fun hc => ?_, fun hc => ?_⟩
        · replace H := H.1 ((eq_J (rd_J (jf_base _ _) rfl q7 (by decide)) (rd_J (jf_base _ _) rfl q8 (by decide)) q9 q10).mp hc)
          exact Ev_to (clx (cli rfl (cli jl_1 (cli (add_J rfl jl_1) rfl)))) rfl rfl H
        · replace H := H.2 (fun hz => hc ((eq_J (rd_J (jf_base _ _) rfl q7 (by decide)) (rd_J (jf_base _ _) rfl q8 (by decide)) q9 q10).mpr hz))
          exact Ev_to (clx (cli rfl (cli jl_0 (cli (add_J rfl jl_1) rfl)))) rfl rfl H
    · replace H := H.2 (fun hz => hc ((eq_J rfl jl_0 q4 (by decide)).mpr hz))
      exact Ev_to (clx (cli rfl (cli jl_1 (cli (add_J rfl jl_1) rfl)))) rfl rfl H
-- 267 GlassWiresModel highOf (I)I
theorem v267_0 {E : gw_N} {N : NM} {res : Option Value × gw_H} {x1 : Int} (H : Ev 1 267 4 [some (.ref 59), some (.int (J x1)), some (.int (J 0)), some (.int (J 0))] [] (hs E (jm N)) res) : Ev 1 267 0 [some (.ref 59), some (.int (J x1)), none, none] [] (hs E (jm N)) res := by
  refine w267_0 ?_
  exact Ev_to (clx (cli rfl (cli jl_0 (cli jl_0 rfl)))) rfl rfl H
theorem v267_4 {E : gw_N} {N : NM} {res : Option Value × gw_H} {x1 : Int} {x2 : Int} {x3 : Int} (H : ((0 ≤ x1 ∧ x1 < 64) ∧ ((R ((N 77) x1)) ∧ ((R x3) ∧ ((((N 77) x1) ≤ x3 → res = (some (.int (J x2)), hs E (jm N))) ∧ (¬ ((N 77) x1) ≤ x3 → ((0 ≤ ((12 * x1) + x3) ∧ ((12 * x1) + x3) < 768) ∧ Ev 1 267 4 [some (.ref 59), some (.int (J x1)), some (.int (J (x2 + ((N 79) ((12 * x1) + x3))))), some (.int (J (x3 + 1)))] [] (hs E (jm N)) res))))))) : Ev 1 267 4 [some (.ref 59), some (.int (J x1)), some (.int (J x2)), some (.int (J x3))] [] (hs E (jm N)) res := by
  refine w267_4 ?_
  obtain ⟨q1, H⟩ := H
  refine ⟨inb_J rfl q1 (by decide), ?_⟩
  obtain ⟨q2, q3, H⟩ := H
  refine ⟨fun hc => ?_, fun hc => ?_⟩
  · replace H := H.1 ((le_J (rd_J (jf_base _ _) rfl q1 (by decide)) rfl q2 q3).mp hc)
    exact H.trans (rt_i rfl rfl)
  · replace H := H.2 (fun hz => hc ((le_J (rd_J (jf_base _ _) rfl q1 (by decide)) rfl q2 q3).mpr hz))
    obtain ⟨q4, H⟩ := H
    refine ⟨inb_J (add_J (mul_J jl_12 rfl) rfl) q4 (by decide), ?_⟩
    exact Ev_to (clx (cli rfl (cli (add_J rfl (rd_J (jf_base _ _) (add_J (mul_J jl_12 rfl) rfl) q4 (by decide))) (cli (add_J rfl jl_1) rfl)))) rfl rfl H
-- 270 GlassWiresModel runsTo (III)Z
theorem v270_0 {E : gw_N} {N : NM} {res : Option Value × gw_H} {x1 : Int} {x2 : Int} {x3 : Int} (H : ((0 ≤ x3 ∧ x3 < 162) ∧ ((R ((N 67) x3)) ∧ ((((N 67) x3) ≤ 0 → res = (some (.int (J 0)), hs E (jm N))) ∧ (¬ ((N 67) x3) ≤ 0 → ((0 ≤ x1 ∧ x1 < 64) ∧ ((R ((N 81) x1)) ∧ ((R ((N 59) 22)) ∧ ((((N 81) x1) ≤ ((N 59) 22) → res = (some (.int (J 0)), hs E (jm N))) ∧ (¬ ((N 81) x1) ≤ ((N 59) 22) → ((0 ≤ x2 ∧ x2 < 64) ∧ ((R ((N 81) x2)) ∧ ((((N 59) 22) ≤ ((N 81) x2) → res = (some (.int (J 0)), hs E (jm N))) ∧ (¬ ((N 59) 22) ≤ ((N 81) x2) → res = (some (.int (J 1)), hs E (jm N)))))))))))))))) : Ev 1 270 0 [some (.ref 59), some (.int (J x1)), some (.int (J x2)), some (.int (J x3))] [] (hs E (jm N)) res := by
  refine w270_0 ?_
  obtain ⟨q1, H⟩ := H
  refine ⟨inb_J rfl q1 (by decide), ?_⟩
  obtain ⟨q2, H⟩ := H
  refine ⟨fun hc => ?_, fun hc => ?_⟩
  · replace H := H.1 ((le_J (rd_J (jf_base _ _) rfl q1 (by decide)) jl_0 q2 (by decide)).mp hc)
    exact H.trans (rt_i jl_0 rfl)
  · replace H := H.2 (fun hz => hc ((le_J (rd_J (jf_base _ _) rfl q1 (by decide)) jl_0 q2 (by decide)).mpr hz))
    obtain ⟨q3, H⟩ := H
    refine ⟨inb_J rfl q3 (by decide), ?_⟩
    obtain ⟨q4, q5, H⟩ := H
    refine ⟨fun hc => ?_, fun hc => ?_⟩
    · replace H := H.1 ((le_J (rd_J (jf_base _ _) rfl q3 (by decide)) (fld_J (jf_base _ _)) q4 q5).mp hc)
      exact H.trans (rt_i jl_0 rfl)
    · replace H := H.2 (fun hz => hc ((le_J (rd_J (jf_base _ _) rfl q3 (by decide)) (fld_J (jf_base _ _)) q4 q5).mpr hz))
      obtain ⟨q6, H⟩ := H
      refine ⟨inb_J rfl q6 (by decide), ?_⟩
      obtain ⟨q7, H⟩ := H
      refine ⟨fun hc => ?_, fun hc => ?_⟩
      · replace H := H.1 ((le_J (fld_J (jf_base _ _)) (rd_J (jf_base _ _) rfl q6 (by decide)) q5 q7).mp hc)
        exact H.trans (rt_i jl_0 rfl)
      · replace H := H.2 (fun hz => hc ((le_J (fld_J (jf_base _ _)) (rd_J (jf_base _ _) rfl q6 (by decide)) q5 q7).mpr hz))
        exact H.trans (rt_i jl_1 rfl)
def G270 (N : NM) (x1 : Int) (x2 : Int) (x3 : Int) : Int := (if ((N 67) x3) ≤ 0 then 0 else (if ((N 81) x1) ≤ ((N 59) 22) then 0 else (if ((N 59) 22) ≤ ((N 81) x2) then 0 else 1)))
def Q270 (N : NM) (x1 : Int) (x2 : Int) (x3 : Int) : Prop := ((0 ≤ x3 ∧ x3 < 162) ∧ ((R ((N 67) x3)) ∧ ((((N 67) x3) ≤ 0 → True) ∧ (¬ ((N 67) x3) ≤ 0 → ((0 ≤ x1 ∧ x1 < 64) ∧ ((R ((N 81) x1)) ∧ ((R ((N 59) 22)) ∧ ((((N 81) x1) ≤ ((N 59) 22) → True) ∧ (¬ ((N 81) x1) ≤ ((N 59) 22) → ((0 ≤ x2 ∧ x2 < 64) ∧ ((R ((N 81) x2)) ∧ ((((N 59) 22) ≤ ((N 81) x2) → True) ∧ (¬ ((N 59) 22) ≤ ((N 81) x2) → True)))))))))))))
theorem t270 {N : NM} {x1 : Int} {x2 : Int} {x3 : Int} (H : Q270 N x1 x2 x3) : F270 (jm N) (J x1) (J x2) (J x3) = J (G270 N x1 x2 x3) := by
  unfold Q270 at H
  unfold F270 G270
  obtain ⟨q1, H⟩ := H
  obtain ⟨q2, H⟩ := H
  refine ite_J (le_J (rd_J (jf_base _ _) rfl q1 (by decide)) jl_0 q2 (by decide)) (fun hc => ?_) (fun hc => ?_)
  · replace H := H.1 ((le_J (rd_J (jf_base _ _) rfl q1 (by decide)) jl_0 q2 (by decide)).mp hc)
    exact jl_0
  · replace H := H.2 (fun hz => hc ((le_J (rd_J (jf_base _ _) rfl q1 (by decide)) jl_0 q2 (by decide)).mpr hz))
    obtain ⟨q3, H⟩ := H
    obtain ⟨q4, q5, H⟩ := H
    refine ite_J (le_J (rd_J (jf_base _ _) rfl q3 (by decide)) (fld_J (jf_base _ _)) q4 q5) (fun hc => ?_) (fun hc => ?_)
    · replace H := H.1 ((le_J (rd_J (jf_base _ _) rfl q3 (by decide)) (fld_J (jf_base _ _)) q4 q5).mp hc)
      exact jl_0
    · replace H := H.2 (fun hz => hc ((le_J (rd_J (jf_base _ _) rfl q3 (by decide)) (fld_J (jf_base _ _)) q4 q5).mpr hz))
      obtain ⟨q6, H⟩ := H
      obtain ⟨q7, H⟩ := H
      refine ite_J (le_J (fld_J (jf_base _ _)) (rd_J (jf_base _ _) rfl q6 (by decide)) q5 q7) (fun hc => ?_) (fun hc => ?_)
      · replace H := H.1 ((le_J (fld_J (jf_base _ _)) (rd_J (jf_base _ _) rfl q6 (by decide)) q5 q7).mp hc)
        exact jl_0
      · replace H := H.2 (fun hz => hc ((le_J (fld_J (jf_base _ _)) (rd_J (jf_base _ _) rfl q6 (by decide)) q5 q7).mpr hz))
        exact jl_1
theorem p270 {N : NM} {x1 : Int} {x2 : Int} {x3 : Int} (H : Q270 N x1 x2 x3) : P270 (jm N) (J x1) (J x2) (J x3) := by
  unfold Q270 at H
  unfold P270
  obtain ⟨q1, H⟩ := H
  refine ⟨inb_J rfl q1 (by decide), ?_⟩
  obtain ⟨q2, H⟩ := H
  refine ⟨fun hc => ?_, fun hc => ?_⟩
  · replace H := H.1 ((le_J (rd_J (jf_base _ _) rfl q1 (by decide)) jl_0 q2 (by decide)).mp hc)
    trivial
  · replace H := H.2 (fun hz => hc ((le_J (rd_J (jf_base _ _) rfl q1 (by decide)) jl_0 q2 (by decide)).mpr hz))
    obtain ⟨q3, H⟩ := H
    refine ⟨inb_J rfl q3 (by decide), ?_⟩
    obtain ⟨q4, q5, H⟩ := H
    refine ⟨fun hc => ?_, fun hc => ?_⟩
    · replace H := H.1 ((le_J (rd_J (jf_base _ _) rfl q3 (by decide)) (fld_J (jf_base _ _)) q4 q5).mp hc)
      trivial
    · replace H := H.2 (fun hz => hc ((le_J (rd_J (jf_base _ _) rfl q3 (by decide)) (fld_J (jf_base _ _)) q4 q5).mpr hz))
      obtain ⟨q6, H⟩ := H
      exact inb_J rfl q6 (by decide)
theorem sz270 {E : gw_N} {N : NM} {x1 : Int} {x2 : Int} {x3 : Int} (H : Q270 N x1 x2 x3) : Rn 270 [.ref 59, .int (J x1), .int (J x2), .int (J x3)] (hs E (jm N)) (some (.int (J (G270 N x1 x2 x3)))) (hs E (jm N)) := by
  have h := s270 (E := E) (M := jm N) (x1 := J x1) (x2 := J x2) (x3 := J x3) (p270 H)
  rw [t270 H] at h
  exact h
-- 272 GlassWiresModel takeOff (II)I
theorem v272_0 {E : gw_N} {N : NM} {res : Option Value × gw_H} {x1 : Int} {x2 : Int} (H : ((0 ≤ x1 ∧ x1 < 64) ∧ ((0 ≤ (((12 * x1) + ((N 77) x1)) - 1) ∧ (((12 * x1) + ((N 77) x1)) - 1) < 768) ∧ ((R ((N 79) (((12 * x1) + ((N 77) x1)) - 1))) ∧ ((R x2) ∧ ((((N 79) (((12 * x1) + ((N 77) x1)) - 1)) ≤ x2 → ((R ((updZ (N 79) (((12 * x1) + ((N 77) x1)) - 1) (((N 79) (((12 * x1) + ((N 77) x1)) - 1)) - ((N 79) (((12 * x1) + ((N 77) x1)) - 1)))) (((12 * x1) + ((N 77) x1)) - 1))) ∧ ((((updZ (N 79) (((12 * x1) + ((N 77) x1)) - 1) (((N 79) (((12 * x1) + ((N 77) x1)) - 1)) - ((N 79) (((12 * x1) + ((N 77) x1)) - 1)))) (((12 * x1) + ((N 77) x1)) - 1)) = 0 → res = (some (.int (J ((N 79) (((12 * x1) + ((N 77) x1)) - 1)))), hs E (jm (upZ (upZ N 79 (updZ (N 79) (((12 * x1) + ((N 77) x1)) - 1) (((N 79) (((12 * x1) + ((N 77) x1)) - 1)) - ((N 79) (((12 * x1) + ((N 77) x1)) - 1))))) 77 (updZ (N 77) x1 (((N 77) x1) - 1)))))) ∧ (¬ ((updZ (N 79) (((12 * x1) + ((N 77) x1)) - 1) (((N 79) (((12 * x1) + ((N 77) x1)) - 1)) - ((N 79) (((12 * x1) + ((N 77) x1)) - 1)))) (((12 * x1) + ((N 77) x1)) - 1)) = 0 → res = (some (.int (J ((N 79) (((12 * x1) + ((N 77) x1)) - 1)))), hs E (jm (upZ (upZ N 79 (updZ (N 79) (((12 * x1) + ((N 77) x1)) - 1) (((N 79) (((12 * x1) + ((N 77) x1)) - 1)) - ((N 79) (((12 * x1) + ((N 77) x1)) - 1))))) 77 (updZ (N 77) x1 (((N 77) x1) - 0))))))))) ∧ (¬ ((N 79) (((12 * x1) + ((N 77) x1)) - 1)) ≤ x2 → ((R ((updZ (N 79) (((12 * x1) + ((N 77) x1)) - 1) (((N 79) (((12 * x1) + ((N 77) x1)) - 1)) - x2)) (((12 * x1) + ((N 77) x1)) - 1))) ∧ ((((updZ (N 79) (((12 * x1) + ((N 77) x1)) - 1) (((N 79) (((12 * x1) + ((N 77) x1)) - 1)) - x2)) (((12 * x1) + ((N 77) x1)) - 1)) = 0 → res = (some (.int (J x2)), hs E (jm (upZ (upZ N 79 (updZ (N 79) (((12 * x1) + ((N 77) x1)) - 1) (((N 79) (((12 * x1) + ((N 77) x1)) - 1)) - x2))) 77 (updZ (N 77) x1 (((N 77) x1) - 1)))))) ∧ (¬ ((updZ (N 79) (((12 * x1) + ((N 77) x1)) - 1) (((N 79) (((12 * x1) + ((N 77) x1)) - 1)) - x2)) (((12 * x1) + ((N 77) x1)) - 1)) = 0 → res = (some (.int (J x2)), hs E (jm (upZ (upZ N 79 (updZ (N 79) (((12 * x1) + ((N 77) x1)) - 1) (((N 79) (((12 * x1) + ((N 77) x1)) - 1)) - x2))) 77 (updZ (N 77) x1 (((N 77) x1) - 0))))))))))))))) : Ev 1 272 0 [some (.ref 59), some (.int (J x1)), some (.int (J x2)), none, none] [] (hs E (jm N)) res := by
  refine w272_0 ?_
  obtain ⟨q1, H⟩ := H
  refine ⟨inb_J rfl q1 (by decide), ?_⟩
  obtain ⟨q2, H⟩ := H
  refine ⟨inb_J (sub_J (add_J (mul_J jl_12 rfl) (rd_J (jf_base _ _) rfl q1 (by decide))) jl_1) q2 (by decide), ?_⟩
  obtain ⟨q3, q4, H⟩ := H
  refine ⟨fun hc => ?_, fun hc => ?_⟩
  · replace H := H.1 ((le_J (rd_J (jf_base _ _) (sub_J (add_J (mul_J jl_12 rfl) (rd_J (jf_base _ _) rfl q1 (by decide))) jl_1) q2 (by decide)) rfl q3 q4).mp hc)
    refine ⟨inb_J (sub_J (add_J (mul_J jl_12 rfl) (rd_J (jf_base _ _) rfl q1 (by decide))) jl_1) q2 (by decide), ?_⟩
    refine ⟨inb_J (sub_J (add_J (mul_J jl_12 rfl) (rd_J (jf_base _ _) rfl q1 (by decide))) jl_1) q2 (by decide), ?_⟩
    refine ⟨inb_J (sub_J (add_J (mul_J jl_12 rfl) (rd_J (jf_base _ _) rfl q1 (by decide))) jl_1) q2 (by decide), ?_⟩
    refine ⟨inb_J rfl q1 (by decide), ?_⟩
    refine ⟨inb_J (sub_J (add_J (mul_J jl_12 rfl) (rd_J (jf_base _ _) rfl q1 (by decide))) jl_1) q2 (by decide), ?_⟩
    obtain ⟨q5, H⟩ := H
    refine ⟨fun hc => ?_, fun hc => ?_⟩
    · replace H := H.1 ((eq_J (rd_J (jf_upd (jf_base _ _) (sub_J (add_J (mul_J jl_12 rfl) (rd_J (jf_base _ _) rfl q1 (by decide))) jl_1) q2 (by decide) (sub_J (rd_J (jf_base _ _) (sub_J (add_J (mul_J jl_12 rfl) (rd_J (jf_base _ _) rfl q1 (by decide))) jl_1) q2 (by decide)) (rd_J (jf_base _ _) (sub_J (add_J (mul_J jl_12 rfl) (rd_J (jf_base _ _) rfl q1 (by decide))) jl_1) q2 (by decide)))) (sub_J (add_J (mul_J jl_12 rfl) (rd_J (jf_base _ _) rfl q1 (by decide))) jl_1) q2 (by decide)) jl_0 q5 (by decide)).mp hc)
      refine ⟨inb_J rfl q1 (by decide), ?_⟩
      exact H.trans (rt_i (rd_J (jf_base _ _) (sub_J (add_J (mul_J jl_12 rfl) (rd_J (jf_base _ _) rfl q1 (by decide))) jl_1) q2 (by decide)) (jm_up (jm_up rfl (jf_upd (jf_base _ _) (sub_J (add_J (mul_J jl_12 rfl) (rd_J (jf_base _ _) rfl q1 (by decide))) jl_1) q2 (by decide) (sub_J (rd_J (jf_base _ _) (sub_J (add_J (mul_J jl_12 rfl) (rd_J (jf_base _ _) rfl q1 (by decide))) jl_1) q2 (by decide)) (rd_J (jf_base _ _) (sub_J (add_J (mul_J jl_12 rfl) (rd_J (jf_base _ _) rfl q1 (by decide))) jl_1) q2 (by decide))))) (jf_upd (jf_base _ _) rfl q1 (by decide) (sub_J (rd_J (jf_base _ _) rfl q1 (by decide)) jl_1))))
    · replace H := H.2 (fun hz => hc ((eq_J (rd_J (jf_upd (jf_base _ _) (sub_J (add_J (mul_J jl_12 rfl) (rd_J (jf_base _ _) rfl q1 (by decide))) jl_1) q2 (by decide) (sub_J (rd_J (jf_base _ _) (sub_J (add_J (mul_J jl_12 rfl) (rd_J (jf_base _ _) rfl q1 (by decide))) jl_1) q2 (by decide)) (rd_J (jf_base _ _) (sub_J (add_J (mul_J jl_12 rfl) (rd_J (jf_base _ _) rfl q1 (by decide))) jl_1) q2 (by decide)))) (sub_J (add_J (mul_J jl_12 rfl) (rd_J (jf_base _ _) rfl q1 (by decide))) jl_1) q2 (by decide)) jl_0 q5 (by decide)).mpr hz))
      refine ⟨inb_J rfl q1 (by decide), ?_⟩
      exact H.trans (rt_i (rd_J (jf_base _ _) (sub_J (add_J (mul_J jl_12 rfl) (rd_J (jf_base _ _) rfl q1 (by decide))) jl_1) q2 (by decide)) (jm_up (jm_up rfl (jf_upd (jf_base _ _) (sub_J (add_J (mul_J jl_12 rfl) (rd_J (jf_base _ _) rfl q1 (by decide))) jl_1) q2 (by decide) (sub_J (rd_J (jf_base _ _) (sub_J (add_J (mul_J jl_12 rfl) (rd_J (jf_base _ _) rfl q1 (by decide))) jl_1) q2 (by decide)) (rd_J (jf_base _ _) (sub_J (add_J (mul_J jl_12 rfl) (rd_J (jf_base _ _) rfl q1 (by decide))) jl_1) q2 (by decide))))) (jf_upd (jf_base _ _) rfl q1 (by decide) (sub_J (rd_J (jf_base _ _) rfl q1 (by decide)) jl_0))))
  · replace H := H.2 (fun hz => hc ((le_J (rd_J (jf_base _ _) (sub_J (add_J (mul_J jl_12 rfl) (rd_J (jf_base _ _) rfl q1 (by decide))) jl_1) q2 (by decide)) rfl q3 q4).mpr hz))
    refine ⟨inb_J (sub_J (add_J (mul_J jl_12 rfl) (rd_J (jf_base _ _) rfl q1 (by decide))) jl_1) q2 (by decide), ?_⟩
    refine ⟨inb_J (sub_J (add_J (mul_J jl_12 rfl) (rd_J (jf_base _ _) rfl q1 (by decide))) jl_1) q2 (by decide), ?_⟩
    refine ⟨inb_J rfl q1 (by decide), ?_⟩
    refine ⟨inb_J (sub_J (add_J (mul_J jl_12 rfl) (rd_J (jf_base _ _) rfl q1 (by decide))) jl_1) q2 (by decide), ?_⟩
    obtain ⟨q6, H⟩ := H
    refine ⟨fun hc => ?_, fun hc => ?_⟩
    · replace H := H.1 ((eq_J (rd_J (jf_upd (jf_base _ _) (sub_J (add_J (mul_J jl_12 rfl) (rd_J (jf_base _ _) rfl q1 (by decide))) jl_1) q2 (by decide) (sub_J (rd_J (jf_base _ _) (sub_J (add_J (mul_J jl_12 rfl) (rd_J (jf_base _ _) rfl q1 (by decide))) jl_1) q2 (by decide)) rfl)) (sub_J (add_J (mul_J jl_12 rfl) (rd_J (jf_base _ _) rfl q1 (by decide))) jl_1) q2 (by decide)) jl_0 q6 (by decide)).mp hc)
      refine ⟨inb_J rfl q1 (by decide), ?_⟩
      exact H.trans (rt_i rfl (jm_up (jm_up rfl (jf_upd (jf_base _ _) (sub_J (add_J (mul_J jl_12 rfl) (rd_J (jf_base _ _) rfl q1 (by decide))) jl_1) q2 (by decide) (sub_J (rd_J (jf_base _ _) (sub_J (add_J (mul_J jl_12 rfl) (rd_J (jf_base _ _) rfl q1 (by decide))) jl_1) q2 (by decide)) rfl))) (jf_upd (jf_base _ _) rfl q1 (by decide) (sub_J (rd_J (jf_base _ _) rfl q1 (by decide)) jl_1))))
    · replace H := H.2 (fun hz => hc ((eq_J (rd_J (jf_upd (jf_base _ _) (sub_J (add_J (mul_J jl_12 rfl) (rd_J (jf_base _ _) rfl q1 (by decide))) jl_1) q2 (by decide) (sub_J (rd_J (jf_base _ _) (sub_J (add_J (mul_J jl_12 rfl) (rd_J (jf_base _ _) rfl q1 (by decide))) jl_1) q2 (by decide)) rfl)) (sub_J (add_J (mul_J jl_12 rfl) (rd_J (jf_base _ _) rfl q1 (by decide))) jl_1) q2 (by decide)) jl_0 q6 (by decide)).mpr hz))
      refine ⟨inb_J rfl q1 (by decide), ?_⟩
      exact H.trans (rt_i rfl (jm_up (jm_up rfl (jf_upd (jf_base _ _) (sub_J (add_J (mul_J jl_12 rfl) (rd_J (jf_base _ _) rfl q1 (by decide))) jl_1) q2 (by decide) (sub_J (rd_J (jf_base _ _) (sub_J (add_J (mul_J jl_12 rfl) (rd_J (jf_base _ _) rfl q1 (by decide))) jl_1) q2 (by decide)) rfl))) (jf_upd (jf_base _ _) rfl q1 (by decide) (sub_J (rd_J (jf_base _ _) rfl q1 (by decide)) jl_0))))
-- 276 GlassWiresModel top (I)I
theorem v276_0 {E : gw_N} {N : NM} {res : Option Value × gw_H} {x1 : Int} (H : ((0 ≤ x1 ∧ x1 < 64) ∧ res = (some (.int (J (((12 * x1) + ((N 77) x1)) - 1))), hs E (jm N)))) : Ev 1 276 0 [some (.ref 59), some (.int (J x1))] [] (hs E (jm N)) res := by
  refine w276_0 ?_
  obtain ⟨q1, H⟩ := H
  refine ⟨inb_J rfl q1 (by decide), ?_⟩
  exact H.trans (rt_i (sub_J (add_J (mul_J jl_12 rfl) (rd_J (jf_base _ _) rfl q1 (by decide))) jl_1) rfl)
def G276 (N : NM) (x1 : Int) : Int := (((12 * x1) + ((N 77) x1)) - 1)
def Q276 (N : NM) (x1 : Int) : Prop := ((0 ≤ x1 ∧ x1 < 64) ∧ True)
theorem t276 {N : NM} {x1 : Int} (H : Q276 N x1) : F276 (jm N) (J x1) = J (G276 N x1) := by
  unfold Q276 at H
  unfold F276 G276
  obtain ⟨q1, H⟩ := H
  exact (sub_J (add_J (mul_J jl_12 rfl) (rd_J (jf_base _ _) rfl q1 (by decide))) jl_1)
theorem p276 {N : NM} {x1 : Int} (H : Q276 N x1) : P276 (jm N) (J x1) := by
  unfold Q276 at H
  unfold P276
  obtain ⟨q1, H⟩ := H
  exact inb_J rfl q1 (by decide)
theorem sz276 {E : gw_N} {N : NM} {x1 : Int} (H : Q276 N x1) : Rn 276 [.ref 59, .int (J x1)] (hs E (jm N)) (some (.int (J (G276 N x1)))) (hs E (jm N)) := by
  have h := s276 (E := E) (M := jm N) (x1 := J x1) (p276 H)
  rw [t276 H] at h
  exact h
-- 279 GlassWiresModel fillsOf (I)I
theorem v279_0 {E : gw_N} {N : NM} {res : Option Value × gw_H} {x1 : Int} (H : Ev 1 279 4 [some (.ref 59), some (.int (J x1)), some (.int (J 0)), some (.int (J 0)), none] [] (hs E (jm N)) res) : Ev 1 279 0 [some (.ref 59), some (.int (J x1)), none, none, none] [] (hs E (jm N)) res := by
  refine w279_0 ?_
  exact Ev_to (clx (cli rfl (cli jl_0 (cli jl_0 (clx rfl))))) rfl rfl H
theorem v279_4 {E : gw_N} {N : NM} {res : Option Value × gw_H} {x1 : Int} {x2 : Int} {x3 : Int} (H : ((R (((N 59) 22) - 1)) ∧ ((R x3) ∧ (((((N 59) 22) - 1) ≤ x3 → res = (some (.int (J x2)), hs E (jm N))) ∧ (¬ (((N 59) 22) - 1) ≤ x3 → ((0 ≤ x1 ∧ x1 < 8) ∧ ((R ((((N 59) 22) - x3) * ((N 74) x1))) ∧ Ev 1 279 4 [some (.ref 59), some (.int (J x1)), some (.int (J (x2 + 1))), some (.int (J (x3 + ((((N 59) 22) - x3) - (Int.tdiv ((((N 59) 22) - x3) * ((N 74) x1)) 10))))), none] [] (hs E (jm N)) res))))))) : Ev 1 279 4 [some (.ref 59), some (.int (J x1)), some (.int (J x2)), some (.int (J x3)), none] [] (hs E (jm N)) res := by
  refine w279_4 ?_
  obtain ⟨q1, q2, H⟩ := H
  refine ⟨fun hc => ?_, fun hc => ?_⟩
  · replace H := H.1 ((le_J (sub_J (fld_J (jf_base _ _)) jl_1) rfl q1 q2).mp hc)
    exact H.trans (rt_i rfl rfl)
  · replace H := H.2 (fun hz => hc ((le_J (sub_J (fld_J (jf_base _ _)) jl_1) rfl q1 q2).mpr hz))
    obtain ⟨q3, H⟩ := H
    refine ⟨inb_J rfl q3 (by decide), ?_⟩
    obtain ⟨q4, H⟩ := H
    exact Ev_to (clx (cli rfl (cli (add_J rfl jl_1) (cli (add_J rfl (sub_J (sub_J (fld_J (jf_base _ _)) rfl) (div_J (mul_J (sub_J (fld_J (jf_base _ _)) rfl) (rd_J (jf_base _ _) rfl q3 (by decide))) jl_10 q4 (by decide) (by decide)))) (clx rfl))))) rfl rfl H
-- 290 GlassWiresModel plain (I)I
theorem v290_0 {E : gw_N} {N : NM} {res : Option Value × gw_H} {x0 : Int} (H : ((R x0) ∧ (((0 : Int) ≤ x0 → res = (some (.int (J x0)), hs E (jm N))) ∧ (¬ (0 : Int) ≤ x0 → res = (some (.int (J (-x0))), hs E (jm N)))))) : Ev 1 290 0 [some (.int (J x0))] [] (hs E (jm N)) res := by
  refine w290_0 ?_
  obtain ⟨q1, H⟩ := H
  refine ⟨fun hc => ?_, fun hc => ?_⟩
  · replace H := H.1 ((le_J jl_0 rfl (by decide) q1).mp hc)
    exact H.trans (rt_i rfl rfl)
  · replace H := H.2 (fun hz => hc ((le_J jl_0 rfl (by decide) q1).mpr hz))
    exact H.trans (rt_i (neg_J rfl) rfl)
def G290 (N : NM) (x0 : Int) : Int := (if (0 : Int) ≤ x0 then x0 else (-x0))
def Q290 (N : NM) (x0 : Int) : Prop := ((R x0) ∧ (((0 : Int) ≤ x0 → True) ∧ (¬ (0 : Int) ≤ x0 → True)))
theorem t290 {N : NM} {x0 : Int} (H : Q290 N x0) : F290 (jm N) (J x0) = J (G290 N x0) := by
  unfold Q290 at H
  unfold F290 G290
  obtain ⟨q1, H⟩ := H
  refine ite_J (le_J jl_0 rfl (by decide) q1) (fun hc => ?_) (fun hc => ?_)
  · replace H := H.1 ((le_J jl_0 rfl (by decide) q1).mp hc)
    exact rfl
  · replace H := H.2 (fun hz => hc ((le_J jl_0 rfl (by decide) q1).mpr hz))
    exact (neg_J rfl)
theorem sz290 {E : gw_N} {N : NM} {x0 : Int} (H : Q290 N x0) : Rn 290 [.int (J x0)] (hs E (jm N)) (some (.int (J (G290 N x0)))) (hs E (jm N)) := by
  have h := s290 (E := E) (M := jm N) (x0 := J x0)
  rw [t290 H] at h
  exact h
-- 302 GlassWiresModel layGroups ()I
theorem v302_0 {E : gw_N} {N : NM} {res : Option Value × gw_H}  (H : Ev 1 302 4 [some (.ref 59), some (.int (J 0)), some (.int (J 0))] [] (hs E (jm N)) res) : Ev 1 302 0 [some (.ref 59), none, none] [] (hs E (jm N)) res := by
  refine w302_0 ?_
  exact Ev_to (clx (cli jl_0 (cli jl_0 rfl))) rfl rfl H
theorem v302_4 {E : gw_N} {N : NM} {res : Option Value × gw_H} {x1 : Int} {x2 : Int} (H : ((R x2) ∧ (((8 : Int) ≤ x2 → Ev 1 302 25 [some (.ref 59), some (.int (J x1)), some (.int (J 0))] [] (hs E (jm N)) res) ∧ (¬ (8 : Int) ≤ x2 → ((0 ≤ x2 ∧ x2 < 8) ∧ Ev 1 302 4 [some (.ref 59), some (.int (J x1)), some (.int (J (x2 + 1)))] [] (hs E (jm (upZ N 88 (updZ (N 88) x2 0)))) res))))) : Ev 1 302 4 [some (.ref 59), some (.int (J x1)), some (.int (J x2))] [] (hs E (jm N)) res := by
  refine w302_4 ?_
  obtain ⟨q1, H⟩ := H
  refine ⟨fun hc => ?_, fun hc => ?_⟩
  · replace H := H.1 ((le_J jl_8 rfl (by decide) q1).mp hc)
    exact Ev_to (clx (cli rfl (cli jl_0 rfl))) rfl rfl H
  · replace H := H.2 (fun hz => hc ((le_J jl_8 rfl (by decide) q1).mpr hz))
    obtain ⟨q2, H⟩ := H
    refine ⟨inb_J rfl q2 (by decide), ?_⟩
    exact Ev_to (clx (cli rfl (cli (add_J rfl jl_1) rfl))) rfl (jm_up rfl (jf_upd (jf_base _ _) rfl q2 (by decide) jl_0)) H
theorem v302_25 {E : gw_N} {N : NM} {res : Option Value × gw_H} {x1 : Int} {x2 : Int} (H : ((R ((N 59) 40)) ∧ ((R x2) ∧ ((((N 59) 40) ≤ x2 → res = (some (.int (J x1)), hs E (jm N))) ∧ (¬ ((N 59) 40) ≤ x2 → ((0 ≤ x2 ∧ x2 < 8) ∧ ((0 ≤ ((N 87) x2) ∧ ((N 87) x2) < 8) ∧ ((R (((N 87) x2) + 1)) ∧ ((R x1) ∧ (((((N 87) x2) + 1) ≤ x1 → Ev 1 302 25 [some (.ref 59), some (.int (J x1)), some (.int (J (x2 + 1)))] [] (hs E (jm (upZ N 88 (updZ (N 88) ((N 87) x2) (((N 88) ((N 87) x2)) + ((N 86) x2)))))) res) ∧ (¬ (((N 87) x2) + 1) ≤ x1 → Ev 1 302 25 [some (.ref 59), some (.int (J (((N 87) x2) + 1))), some (.int (J (x2 + 1)))] [] (hs E (jm (upZ N 88 (updZ (N 88) ((N 87) x2) (((N 88) ((N 87) x2)) + ((N 86) x2)))))) res))))))))))) : Ev 1 302 25 [some (.ref 59), some (.int (J x1)), some (.int (J x2))] [] (hs E (jm N)) res := by
  refine w302_25 ?_
  obtain ⟨q1, q2, H⟩ := H
  refine ⟨fun hc => ?_, fun hc => ?_⟩
  · replace H := H.1 ((le_J (fld_J (jf_base _ _)) rfl q1 q2).mp hc)
    exact H.trans (rt_i rfl rfl)
  · replace H := H.2 (fun hz => hc ((le_J (fld_J (jf_base _ _)) rfl q1 q2).mpr hz))
    obtain ⟨q3, H⟩ := H
    refine ⟨inb_J rfl q3 (by decide), ?_⟩
    obtain ⟨q4, H⟩ := H
    refine ⟨inb_J (rd_J (jf_base _ _) rfl q3 (by decide)) q4 (by decide), ?_⟩
    refine ⟨inb_J rfl q3 (by decide), ?_⟩
    refine ⟨inb_J (rd_J (jf_base _ _) rfl q3 (by decide)) q4 (by decide), ?_⟩
    refine ⟨inb_J rfl q3 (by decide), ?_⟩
    obtain ⟨q5, q6, H⟩ := H
    refine ⟨fun hc => ?_, fun hc => ?_⟩
    · replace H := H.1 ((le_J (add_J (rd_J (jf_base _ _) rfl q3 (by decide)) jl_1) rfl q5 q6).mp hc)
      exact Ev_to (clx (cli rfl (cli (add_J rfl jl_1) rfl))) rfl (jm_up rfl (jf_upd (jf_base _ _) (rd_J (jf_base _ _) rfl q3 (by decide)) q4 (by decide) (add_J (rd_J (jf_base _ _) (rd_J (jf_base _ _) rfl q3 (by decide)) q4 (by decide)) (rd_J (jf_base _ _) rfl q3 (by decide))))) H
    · replace H := H.2 (fun hz => hc ((le_J (add_J (rd_J (jf_base _ _) rfl q3 (by decide)) jl_1) rfl q5 q6).mpr hz))
      refine ⟨inb_J rfl q3 (by decide), ?_⟩
      exact Ev_to (clx (cli (add_J (rd_J (jf_base _ _) rfl q3 (by decide)) jl_1) (cli (add_J rfl jl_1) rfl))) rfl (jm_up rfl (jf_upd (jf_base _ _) (rd_J (jf_base _ _) rfl q3 (by decide)) q4 (by decide) (add_J (rd_J (jf_base _ _) (rd_J (jf_base _ _) rfl q3 (by decide)) q4 (by decide)) (rd_J (jf_base _ _) rfl q3 (by decide))))) H
-- 303 GlassWiresModel giveRods (I)I
theorem v303_0 {E : gw_N} {N : NM} {res : Option Value × gw_H} {x1 : Int} (H : Ev 1 303 2 [some (.ref 59), some (.int (J x1)), some (.int (J 0)), none, none, none, none, none, none] [] (hs E (jm N)) res) : Ev 1 303 0 [some (.ref 59), some (.int (J x1)), none, none, none, none, none, none, none] [] (hs E (jm N)) res := by
  refine w303_0 ?_
  exact Ev_to (clx (cli rfl (cli jl_0 (clx (clx (clx (clx (clx (clx rfl))))))))) rfl rfl H
theorem v303_2 {E : gw_N} {N : NM} {res : Option Value × gw_H} {x1 : Int} {x2 : Int} (H : ((R ((N 59) 36)) ∧ ((R x2) ∧ ((((N 59) 36) ≤ x2 → Ev 1 303 35 [some (.ref 59), some (.int (J x1)), some (.int (J 0)), some (.int (J 0)), some (.int (J 0)), none, none, none, none] [] (hs E (jm N)) res) ∧ (¬ ((N 59) 36) ≤ x2 → ((0 ≤ x2 ∧ x2 < 8) ∧ Ev 1 303 2 [some (.ref 59), some (.int (J x1)), some (.int (J (x2 + 1))), none, none, none, none, none, none] [] (hs E (jm (upZ N 89 (updZ (N 89) x2 ((N 85) x2))))) res)))))) : Ev 1 303 2 [some (.ref 59), some (.int (J x1)), some (.int (J x2)), none, none, none, none, none, none] [] (hs E (jm N)) res := by
  refine w303_2 ?_
  obtain ⟨q1, q2, H⟩ := H
  refine ⟨fun hc => ?_, fun hc => ?_⟩
  · replace H := H.1 ((le_J (fld_J (jf_base _ _)) rfl q1 q2).mp hc)
    exact Ev_to (clx (cli rfl (cli jl_0 (cli jl_0 (cli jl_0 (clx (clx (clx (clx rfl))))))))) rfl rfl H
  · replace H := H.2 (fun hz => hc ((le_J (fld_J (jf_base _ _)) rfl q1 q2).mpr hz))
    obtain ⟨q3, H⟩ := H
    refine ⟨inb_J rfl q3 (by decide), ?_⟩
    refine ⟨inb_J rfl q3 (by decide), ?_⟩
    exact Ev_to (clx (cli rfl (cli (add_J rfl jl_1) (clx (clx (clx (clx (clx (clx rfl))))))))) rfl (jm_up rfl (jf_upd (jf_base _ _) rfl q3 (by decide) (rd_J (jf_base _ _) rfl q3 (by decide)))) H
theorem v303_35 {E : gw_N} {N : NM} {res : Option Value × gw_H} {x1 : Int} {x2 : Int} {x3 : Int} {x4 : Int} (H : ((R x1) ∧ ((R x4) ∧ ((x1 ≤ x4 → res = (some (.int (J x2)), hs E (jm N))) ∧ (¬ x1 ≤ x4 → Ev 1 303 47 [some (.ref 59), some (.int (J x1)), some (.int (J x2)), some (.int (J x3)), some (.int (J x4)), some (.int (J (-1))), some (.int (J 0)), none, none] [] (hs E (jm N)) res))))) : Ev 1 303 35 [some (.ref 59), some (.int (J x1)), some (.int (J x2)), some (.int (J x3)), some (.int (J x4)), none, none, none, none] [] (hs E (jm N)) res := by
  refine w303_35 ?_
  obtain ⟨q1, q2, H⟩ := H
  refine ⟨fun hc => ?_, fun hc => ?_⟩
  · replace H := H.1 ((le_J rfl rfl q1 q2).mp hc)
    exact H.trans (rt_i rfl rfl)
  · replace H := H.2 (fun hz => hc ((le_J rfl rfl q1 q2).mpr hz))
    exact Ev_to (clx (cli rfl (cli rfl (cli rfl (cli rfl (cli jl_m1 (cli jl_0 (clx (clx rfl))))))))) rfl rfl H
theorem v303_47 {E : gw_N} {N : NM} {res : Option Value × gw_H} {x1 : Int} {x2 : Int} {x3 : Int} {x4 : Int} {x5 : Int} {x6 : Int} (H : ((R x1) ∧ ((R x6) ∧ ((x1 ≤ x6 → Ev 1 303 113 [some (.ref 59), some (.int (J x1)), some (.int (J x2)), some (.int (J (zor x3 (zshl 1 x5)))), some (.int (J x4)), some (.int (J x5)), some (.int (J (-1))), some (.int (J 0)), none] [] (hs E (jm N)) res) ∧ (¬ x1 ≤ x6 → (((zand (zshr x3 x6) 1) = 0 → ((R x5) ∧ ((x5 = (-1) → Ev 1 303 47 [some (.ref 59), some (.int (J x1)), some (.int (J x2)), some (.int (J x3)), some (.int (J x4)), some (.int (J x6)), some (.int (J (x6 + 1))), none, none] [] (hs E (jm N)) res) ∧ (¬ x5 = (-1) → ((0 ≤ x6 ∧ x6 < 8) ∧ ((0 ≤ x5 ∧ x5 < 8) ∧ ((R ((N 88) x6)) ∧ ((R ((N 88) x5)) ∧ ((((N 88) x6) ≤ ((N 88) x5) → Ev 1 303 47 [some (.ref 59), some (.int (J x1)), some (.int (J x2)), some (.int (J x3)), some (.int (J x4)), some (.int (J x5)), some (.int (J (x6 + 1))), none, none] [] (hs E (jm N)) res) ∧ (¬ ((N 88) x6) ≤ ((N 88) x5) → Ev 1 303 47 [some (.ref 59), some (.int (J x1)), some (.int (J x2)), some (.int (J x3)), some (.int (J x4)), some (.int (J x6)), some (.int (J (x6 + 1))), none, none] [] (hs E (jm N)) res)))))))))) ∧ (¬ (zand (zshr x3 x6) 1) = 0 → Ev 1 303 47 [some (.ref 59), some (.int (J x1)), some (.int (J x2)), some (.int (J x3)), some (.int (J x4)), some (.int (J x5)), some (.int (J (x6 + 1))), none, none] [] (hs E (jm N)) res))))))) : Ev 1 303 47 [some (.ref 59), some (.int (J x1)), some (.int (J x2)), some (.int (J x3)), some (.int (J x4)), some (.int (J x5)), some (.int (J x6)), none, none] [] (hs E (jm N)) res := by
  refine w303_47 ?_
  obtain ⟨q1, q2, H⟩ := H
  refine ⟨fun hc => ?_, fun hc => ?_⟩
  · replace H := H.1 ((le_J rfl rfl q1 q2).mp hc)
    exact Ev_to (clx (cli rfl (cli rfl (cli (zor_J rfl (zshl_J jl_1 rfl)) (cli rfl (cli rfl (cli jl_m1 (cli jl_0 (clx rfl))))))))) rfl rfl H
  · replace H := H.2 (fun hz => hc ((le_J rfl rfl q1 q2).mpr hz))
    refine ⟨fun hc => ?_, fun hc => ?_⟩
    · replace H := H.1 ((eq_J (zand_J (zshr_J rfl rfl) jl_1) jl_0 (R_toInt _) (by decide)).mp hc)
      obtain ⟨q3, H⟩ := H
      refine ⟨fun hc => ?_, fun hc => ?_⟩
      · replace H := H.1 ((eq_J rfl jl_m1 q3 (by decide)).mp hc)
        exact Ev_to (clx (cli rfl (cli rfl (cli rfl (cli rfl (cli rfl (cli (add_J rfl jl_1) (clx (clx rfl))))))))) rfl rfl H
      · replace H := H.2 (fun hz => hc ((eq_J rfl jl_m1 q3 (by decide)).mpr hz))
        obtain ⟨q4, H⟩ := H
        refine ⟨inb_J rfl q4 (by decide), ?_⟩
        obtain ⟨q5, H⟩ := H
        refine ⟨inb_J rfl q5 (by decide), ?_⟩
        obtain ⟨q6, q7, H⟩ := H
        refine ⟨fun hc => ?_, fun hc => ?_⟩
        · replace H := H.1 ((le_J (rd_J (jf_base _ _) rfl q4 (by decide)) (rd_J (jf_base _ _) rfl q5 (by decide)) q6 q7).mp hc)
          exact Ev_to (clx (cli rfl (cli rfl (cli rfl (cli rfl (cli rfl (cli (add_J rfl jl_1) (clx (clx rfl))))))))) rfl rfl H
        · replace H := H.2 (fun hz => hc ((le_J (rd_J (jf_base _ _) rfl q4 (by decide)) (rd_J (jf_base _ _) rfl q5 (by decide)) q6 q7).mpr hz))
          exact Ev_to (clx (cli rfl (cli rfl (cli rfl (cli rfl (cli rfl (cli (add_J rfl jl_1) (clx (clx rfl))))))))) rfl rfl H
    · replace H := H.2 (fun hz => hc ((eq_J (zand_J (zshr_J rfl rfl) jl_1) jl_0 (R_toInt _) (by decide)).mpr hz))
      exact Ev_to (clx (cli rfl (cli rfl (cli rfl (cli rfl (cli rfl (cli (add_J rfl jl_1) (clx (clx rfl))))))))) rfl rfl H
theorem v303_113 {E : gw_N} {N : NM} {res : Option Value × gw_H} {x1 : Int} {x2 : Int} {x3 : Int} {x4 : Int} {x5 : Int} {x6 : Int} {x7 : Int} (H : ((R ((N 59) 36)) ∧ ((R x7) ∧ ((((N 59) 36) ≤ x7 → ((R x6) ∧ ((x6 = (-1) → res = (some (.int (J (-1))), hs E (jm N))) ∧ (¬ x6 = (-1) → ((0 ≤ x6 ∧ x6 < 8) ∧ Ev 1 303 35 [some (.ref 59), some (.int (J x1)), some (.int (J (x2 + ((N 84) x6)))), some (.int (J x3)), some (.int (J (x4 + 1))), none, none, none, none] [] (hs E (jm (upZ N 89 (updZ (N 89) x6 (((N 89) x6) - 1))))) res))))) ∧ (¬ ((N 59) 36) ≤ x7 → ((0 ≤ x7 ∧ x7 < 8) ∧ ((R ((N 89) x7)) ∧ ((((N 89) x7) ≤ 0 → Ev 1 303 113 [some (.ref 59), some (.int (J x1)), some (.int (J x2)), some (.int (J x3)), some (.int (J x4)), some (.int (J x5)), some (.int (J x6)), some (.int (J (x7 + 1))), none] [] (hs E (jm N)) res) ∧ (¬ ((N 89) x7) ≤ 0 → ((0 ≤ x5 ∧ x5 < 8) ∧ ((R ((N 84) x7)) ∧ ((R ((N 88) x5)) ∧ ((((N 84) x7) < ((N 88) x5) → Ev 1 303 113 [some (.ref 59), some (.int (J x1)), some (.int (J x2)), some (.int (J x3)), some (.int (J x4)), some (.int (J x5)), some (.int (J x6)), some (.int (J (x7 + 1))), none] [] (hs E (jm N)) res) ∧ (¬ ((N 84) x7) < ((N 88) x5) → ((R x6) ∧ ((x6 = (-1) → Ev 1 303 113 [some (.ref 59), some (.int (J x1)), some (.int (J x2)), some (.int (J x3)), some (.int (J x4)), some (.int (J x5)), some (.int (J x7)), some (.int (J (x7 + 1))), none] [] (hs E (jm N)) res) ∧ (¬ x6 = (-1) → ((0 ≤ x6 ∧ x6 < 8) ∧ ((R ((N 84) x6)) ∧ ((((N 84) x6) ≤ ((N 84) x7) → Ev 1 303 113 [some (.ref 59), some (.int (J x1)), some (.int (J x2)), some (.int (J x3)), some (.int (J x4)), some (.int (J x5)), some (.int (J x6)), some (.int (J (x7 + 1))), none] [] (hs E (jm N)) res) ∧ (¬ ((N 84) x6) ≤ ((N 84) x7) → Ev 1 303 113 [some (.ref 59), some (.int (J x1)), some (.int (J x2)), some (.int (J x3)), some (.int (J x4)), some (.int (J x5)), some (.int (J x7)), some (.int (J (x7 + 1))), none] [] (hs E (jm N)) res))))))))))))))))))))) : Ev 1 303 113 [some (.ref 59), some (.int (J x1)), some (.int (J x2)), some (.int (J x3)), some (.int (J x4)), some (.int (J x5)), some (.int (J x6)), some (.int (J x7)), none] [] (hs E (jm N)) res := by
  refine w303_113 ?_
  obtain ⟨q1, q2, H⟩ := H
  refine ⟨fun hc => ?_, fun hc => ?_⟩
  · replace H := H.1 ((le_J (fld_J (jf_base _ _)) rfl q1 q2).mp hc)
    obtain ⟨q3, H⟩ := H
    refine ⟨fun hc => ?_, fun hc => ?_⟩
    · replace H := H.1 ((eq_J rfl jl_m1 q3 (by decide)).mp hc)
      exact H.trans (rt_i jl_m1 rfl)
    · replace H := H.2 (fun hz => hc ((eq_J rfl jl_m1 q3 (by decide)).mpr hz))
      obtain ⟨q4, H⟩ := H
      refine ⟨inb_J rfl q4 (by decide), ?_⟩
      refine ⟨inb_J rfl q4 (by decide), ?_⟩
      refine ⟨inb_J rfl q4 (by decide), ?_⟩
      exact Ev_to (clx (cli rfl (cli (add_J rfl (rd_J (jf_base _ _) rfl q4 (by decide))) (cli rfl (cli (add_J rfl jl_1) (clx (clx (clx (clx rfl))))))))) rfl (jm_up rfl (jf_upd (jf_base _ _) rfl q4 (by decide) (sub_J (rd_J (jf_base _ _) rfl q4 (by decide)) jl_1))) H
  · replace H := H.2 (fun hz => hc ((le_J (fld_J (jf_base _ _)) rfl q1 q2).mpr hz))
    obtain ⟨q5, H⟩ := H
    refine ⟨inb_J rfl q5 (by decide), ?_⟩
    obtain ⟨q6, H⟩ := H
    refine ⟨fun hc => ?_, fun hc => ?_⟩
    · replace H := H.1 ((le_J (rd_J (jf_base _ _) rfl q5 (by decide)) jl_0 q6 (by decide)).mp hc)
      exact Ev_to (clx (cli rfl (cli rfl (cli rfl (cli rfl (cli rfl (cli rfl (cli (add_J rfl jl_1) (clx rfl))))))))) rfl rfl H
    · replace H := H.2 (fun hz => hc ((le_J (rd_J (jf_base _ _) rfl q5 (by decide)) jl_0 q6 (by decide)).mpr hz))
      refine ⟨inb_J rfl q5 (by decide), ?_⟩
      obtain ⟨q7, H⟩ := H
      refine ⟨inb_J rfl q7 (by decide), ?_⟩
      obtain ⟨q8, q9, H⟩ := H
      refine ⟨fun hc => ?_, fun hc => ?_⟩
      · replace H := H.1 ((lt_J (rd_J (jf_base _ _) rfl q5 (by decide)) (rd_J (jf_base _ _) rfl q7 (by decide)) q8 q9).mp hc)
        exact Ev_to (clx (cli rfl (cli rfl (cli rfl (cli rfl (cli rfl (cli rfl (cli (add_J rfl jl_1) (clx rfl))))))))) rfl rfl H
      · replace H := H.2 (fun hz => hc ((lt_J (rd_J (jf_base _ _) rfl q5 (by decide)) (rd_J (jf_base _ _) rfl q7 (by decide)) q8 q9).mpr hz))
        obtain ⟨q10, H⟩ := H
        refine ⟨fun hc => ?_, fun hc => ?_⟩
        · replace H := H.1 ((eq_J rfl jl_m1 q10 (by decide)).mp hc)
          exact Ev_to (clx (cli rfl (cli rfl (cli rfl (cli rfl (cli rfl (cli rfl (cli (add_J rfl jl_1) (clx rfl))))))))) rfl rfl H
        · replace H := H.2 (fun hz => hc ((eq_J rfl jl_m1 q10 (by decide)).mpr hz))
          refine ⟨inb_J rfl q5 (by decide), ?_⟩
          obtain ⟨q11, H⟩ := H
          refine ⟨inb_J rfl q11 (by decide), ?_⟩
          obtain ⟨q12, H⟩ := H
          refine ⟨fun hc => ?_, fun hc => ?_⟩
          · replace H := H.1 ((le_J (rd_J (jf_base _ _) rfl q11 (by decide)) (rd_J (jf_base _ _) rfl q5 (by decide)) q12 q8).mp hc)
            exact Ev_to (clx (cli rfl (cli rfl (cli rfl (cli rfl (cli rfl (cli rfl (cli (add_J rfl jl_1) (clx rfl))))))))) rfl rfl H
          · replace H := H.2 (fun hz => hc ((le_J (rd_J (jf_base _ _) rfl q11 (by decide)) (rd_J (jf_base _ _) rfl q5 (by decide)) q12 q8).mpr hz))
            exact Ev_to (clx (cli rfl (cli rfl (cli rfl (cli rfl (cli rfl (cli rfl (cli (add_J rfl jl_1) (clx rfl))))))))) rfl rfl H
-- 304 GlassWiresModel nextGroups ()Z
theorem v304_0 {E : gw_N} {N : NM} {res : Option Value × gw_H}  (H : Ev 1 304 7 [some (.ref 59), some (.int (J (((N 59) 40) - 1))), none, none] [] (hs E (jm N)) res) : Ev 1 304 0 [some (.ref 59), none, none, none] [] (hs E (jm N)) res := by
  refine w304_0 ?_
  exact Ev_to (clx (cli (sub_J (fld_J (jf_base _ _)) jl_1) (clx (clx rfl)))) rfl rfl H
theorem v304_7 {E : gw_N} {N : NM} {res : Option Value × gw_H} {x1 : Int} (H : ((R x1) ∧ ((x1 ≤ 0 → res = (some (.int (J 0)), hs E (jm N))) ∧ (¬ x1 ≤ 0 → Ev 1 304 15 [some (.ref 59), some (.int (J x1)), some (.int (J 0)), some (.int (J 0))] [] (hs E (jm N)) res)))) : Ev 1 304 7 [some (.ref 59), some (.int (J x1)), none, none] [] (hs E (jm N)) res := by
  refine w304_7 ?_
  obtain ⟨q1, H⟩ := H
  refine ⟨fun hc => ?_, fun hc => ?_⟩
  · replace H := H.1 ((le_J rfl jl_0 q1 (by decide)).mp hc)
    exact H.trans (rt_i jl_0 rfl)
  · replace H := H.2 (fun hz => hc ((le_J rfl jl_0 q1 (by decide)).mpr hz))
    exact Ev_to (clx (cli rfl (cli jl_0 (cli jl_0 rfl)))) rfl rfl H
theorem v304_15 {E : gw_N} {N : NM} {res : Option Value × gw_H} {x1 : Int} {x2 : Int} {x3 : Int} (H : ((R x1) ∧ ((R x3) ∧ ((x1 ≤ x3 → ((0 ≤ x1 ∧ x1 < 8) ∧ ((R x2) ∧ ((R ((N 87) x1)) ∧ ((x2 < ((N 87) x1) → Ev 1 304 7 [some (.ref 59), some (.int (J (x1 + (-1)))), none, none] [] (hs E (jm N)) res) ∧ (¬ x2 < ((N 87) x1) → Ev 1 304 71 [some (.ref 59), none, none, some (.int (J (x1 + 1)))] [] (hs E (jm (upZ N 87 (updZ (N 87) x1 (((N 87) x1) + 1))))) res)))))) ∧ (¬ x1 ≤ x3 → ((0 ≤ x3 ∧ x3 < 8) ∧ ((R ((N 87) x3)) ∧ ((R x2) ∧ ((((N 87) x3) ≤ x2 → Ev 1 304 15 [some (.ref 59), some (.int (J x1)), some (.int (J x2)), some (.int (J (x3 + 1)))] [] (hs E (jm N)) res) ∧ (¬ ((N 87) x3) ≤ x2 → Ev 1 304 15 [some (.ref 59), some (.int (J x1)), some (.int (J ((N 87) x3))), some (.int (J (x3 + 1)))] [] (hs E (jm N)) res)))))))))) : Ev 1 304 15 [some (.ref 59), some (.int (J x1)), some (.int (J x2)), some (.int (J x3))] [] (hs E (jm N)) res := by
  refine w304_15 ?_
  obtain ⟨q1, q2, H⟩ := H
  refine ⟨fun hc => ?_, fun hc => ?_⟩
  · replace H := H.1 ((le_J rfl rfl q1 q2).mp hc)
    obtain ⟨q3, H⟩ := H
    refine ⟨inb_J rfl q3 (by decide), ?_⟩
    obtain ⟨q4, q5, H⟩ := H
    refine ⟨fun hc => ?_, fun hc => ?_⟩
    · replace H := H.1 ((lt_J rfl (rd_J (jf_base _ _) rfl q3 (by decide)) q4 q5).mp hc)
      exact Ev_to (clx (cli (add_J rfl jl_m1) (clx (clx rfl)))) rfl rfl H
    · replace H := H.2 (fun hz => hc ((lt_J rfl (rd_J (jf_base _ _) rfl q3 (by decide)) q4 q5).mpr hz))
      refine ⟨inb_J rfl q3 (by decide), ?_⟩
      refine ⟨inb_J rfl q3 (by decide), ?_⟩
      exact Ev_to (clx (clx (clx (cli (add_J rfl jl_1) rfl)))) rfl (jm_up rfl (jf_upd (jf_base _ _) rfl q3 (by decide) (add_J (rd_J (jf_base _ _) rfl q3 (by decide)) jl_1))) H
  · replace H := H.2 (fun hz => hc ((le_J rfl rfl q1 q2).mpr hz))
    obtain ⟨q6, H⟩ := H
    refine ⟨inb_J rfl q6 (by decide), ?_⟩
    obtain ⟨q7, q8, H⟩ := H
    refine ⟨fun hc => ?_, fun hc => ?_⟩
    · replace H := H.1 ((le_J (rd_J (jf_base _ _) rfl q6 (by decide)) rfl q7 q8).mp hc)
      exact Ev_to (clx (cli rfl (cli rfl (cli (add_J rfl jl_1) rfl)))) rfl rfl H
    · replace H := H.2 (fun hz => hc ((le_J (rd_J (jf_base _ _) rfl q6 (by decide)) rfl q7 q8).mpr hz))
      refine ⟨inb_J rfl q6 (by decide), ?_⟩
      exact Ev_to (clx (cli rfl (cli (rd_J (jf_base _ _) rfl q6 (by decide)) (cli (add_J rfl jl_1) rfl)))) rfl rfl H
theorem v304_71 {E : gw_N} {N : NM} {res : Option Value × gw_H} {x3 : Int} (H : ((R ((N 59) 40)) ∧ ((R x3) ∧ ((((N 59) 40) ≤ x3 → res = (some (.int (J 1)), hs E (jm N))) ∧ (¬ ((N 59) 40) ≤ x3 → ((0 ≤ x3 ∧ x3 < 8) ∧ Ev 1 304 71 [some (.ref 59), none, none, some (.int (J (x3 + 1)))] [] (hs E (jm (upZ N 87 (updZ (N 87) x3 0)))) res)))))) : Ev 1 304 71 [some (.ref 59), none, none, some (.int (J x3))] [] (hs E (jm N)) res := by
  refine w304_71 ?_
  obtain ⟨q1, q2, H⟩ := H
  refine ⟨fun hc => ?_, fun hc => ?_⟩
  · replace H := H.1 ((le_J (fld_J (jf_base _ _)) rfl q1 q2).mp hc)
    exact H.trans (rt_i jl_1 rfl)
  · replace H := H.2 (fun hz => hc ((le_J (fld_J (jf_base _ _)) rfl q1 q2).mpr hz))
    obtain ⟨q3, H⟩ := H
    refine ⟨inb_J rfl q3 (by decide), ?_⟩
    exact Ev_to (clx (clx (clx (cli (add_J rfl jl_1) rfl)))) rfl (jm_up rfl (jf_upd (jf_base _ _) rfl q3 (by decide) jl_0)) H
-- 305 GlassWiresModel laidWires ()I
theorem v305_0 {E : gw_N} {N : NM} {res : Option Value × gw_H}  (H : Ev 1 305 4 [some (.ref 59), some (.int (J 0)), some (.int (J 0))] [] (hs E (jm N)) res) : Ev 1 305 0 [some (.ref 59), none, none] [] (hs E (jm N)) res := by
  refine w305_0 ?_
  exact Ev_to (clx (cli jl_0 (cli jl_0 rfl))) rfl rfl H
theorem v305_4 {E : gw_N} {N : NM} {res : Option Value × gw_H} {x1 : Int} {x2 : Int} (H : ((R ((N 59) 4)) ∧ ((R x2) ∧ ((((N 59) 4) ≤ x2 → res = (some (.int (J x1)), hs E (jm N))) ∧ (¬ ((N 59) 4) ≤ x2 → ((0 ≤ x2 ∧ x2 < 30) ∧ ((R ((N 64) x2)) ∧ ((((N 64) x2) = 0 → Ev 1 305 4 [some (.ref 59), some (.int (J (x1 + 0))), some (.int (J (x2 + 1)))] [] (hs E (jm N)) res) ∧ (¬ ((N 64) x2) = 0 → Ev 1 305 4 [some (.ref 59), some (.int (J (x1 + 1))), some (.int (J (x2 + 1)))] [] (hs E (jm N)) res))))))))) : Ev 1 305 4 [some (.ref 59), some (.int (J x1)), some (.int (J x2))] [] (hs E (jm N)) res := by
  refine w305_4 ?_
  obtain ⟨q1, q2, H⟩ := H
  refine ⟨fun hc => ?_, fun hc => ?_⟩
  · replace H := H.1 ((le_J (fld_J (jf_base _ _)) rfl q1 q2).mp hc)
    exact H.trans (rt_i rfl rfl)
  · replace H := H.2 (fun hz => hc ((le_J (fld_J (jf_base _ _)) rfl q1 q2).mpr hz))
    obtain ⟨q3, H⟩ := H
    refine ⟨inb_J rfl q3 (by decide), ?_⟩
    obtain ⟨q4, H⟩ := H
    refine ⟨fun hc => ?_, fun hc => ?_⟩
    · replace H := H.1 ((eq_J (rd_J (jf_base _ _) rfl q3 (by decide)) jl_0 q4 (by decide)).mp hc)
      exact Ev_to (clx (cli (add_J rfl jl_0) (cli (add_J rfl jl_1) rfl))) rfl rfl H
    · replace H := H.2 (fun hz => hc ((eq_J (rd_J (jf_base _ _) rfl q3 (by decide)) jl_0 q4 (by decide)).mpr hz))
      exact Ev_to (clx (cli (add_J rfl jl_1) (cli (add_J rfl jl_1) rfl))) rfl rfl H
-- 310 java/lang/Math abs (I)I
theorem v310_0 {E : gw_N} {N : NM} {res : Option Value × gw_H} {x0 : Int} (H : ((R x0) ∧ (((0 : Int) ≤ x0 → res = (some (.int (J x0)), hs E (jm N))) ∧ (¬ (0 : Int) ≤ x0 → res = (some (.int (J (-x0))), hs E (jm N)))))) : Ev 1 310 0 [some (.int (J x0))] [] (hs E (jm N)) res := by
  refine w310_0 ?_
  obtain ⟨q1, H⟩ := H
  refine ⟨fun hc => ?_, fun hc => ?_⟩
  · replace H := H.1 ((le_J jl_0 rfl (by decide) q1).mp hc)
    exact H.trans (rt_i rfl rfl)
  · replace H := H.2 (fun hz => hc ((le_J jl_0 rfl (by decide) q1).mpr hz))
    exact H.trans (rt_i (neg_J rfl) rfl)
def G310 (N : NM) (x0 : Int) : Int := (if (0 : Int) ≤ x0 then x0 else (-x0))
def Q310 (N : NM) (x0 : Int) : Prop := ((R x0) ∧ (((0 : Int) ≤ x0 → True) ∧ (¬ (0 : Int) ≤ x0 → True)))
theorem t310 {N : NM} {x0 : Int} (H : Q310 N x0) : F310 (jm N) (J x0) = J (G310 N x0) := by
  unfold Q310 at H
  unfold F310 G310
  obtain ⟨q1, H⟩ := H
  refine ite_J (le_J jl_0 rfl (by decide) q1) (fun hc => ?_) (fun hc => ?_)
  · replace H := H.1 ((le_J jl_0 rfl (by decide) q1).mp hc)
    exact rfl
  · replace H := H.2 (fun hz => hc ((le_J jl_0 rfl (by decide) q1).mpr hz))
    exact (neg_J rfl)
theorem sz310 {E : gw_N} {N : NM} {x0 : Int} (H : Q310 N x0) : Rn 310 [.int (J x0)] (hs E (jm N)) (some (.int (J (G310 N x0)))) (hs E (jm N)) := by
  have h := s310 (E := E) (M := jm N) (x0 := J x0)
  rw [t310 H] at h
  exact h
-- 311 java/lang/Math max (II)I
theorem v311_0 {E : gw_N} {N : NM} {res : Option Value × gw_H} {x0 : Int} {x1 : Int} (H : ((R x0) ∧ ((R x1) ∧ ((x0 < x1 → res = (some (.int (J x1)), hs E (jm N))) ∧ (¬ x0 < x1 → res = (some (.int (J x0)), hs E (jm N))))))) : Ev 1 311 0 [some (.int (J x0)), some (.int (J x1))] [] (hs E (jm N)) res := by
  refine w311_0 ?_
  obtain ⟨q1, q2, H⟩ := H
  refine ⟨fun hc => ?_, fun hc => ?_⟩
  · replace H := H.1 ((lt_J rfl rfl q1 q2).mp hc)
    exact H.trans (rt_i rfl rfl)
  · replace H := H.2 (fun hz => hc ((lt_J rfl rfl q1 q2).mpr hz))
    exact H.trans (rt_i rfl rfl)
def G311 (N : NM) (x0 : Int) (x1 : Int) : Int := (if x0 < x1 then x1 else x0)
def Q311 (N : NM) (x0 : Int) (x1 : Int) : Prop := ((R x0) ∧ ((R x1) ∧ ((x0 < x1 → True) ∧ (¬ x0 < x1 → True))))
theorem t311 {N : NM} {x0 : Int} {x1 : Int} (H : Q311 N x0 x1) : F311 (jm N) (J x0) (J x1) = J (G311 N x0 x1) := by
  unfold Q311 at H
  unfold F311 G311
  obtain ⟨q1, q2, H⟩ := H
  refine ite_J (lt_J rfl rfl q1 q2) (fun hc => ?_) (fun hc => ?_)
  · replace H := H.1 ((lt_J rfl rfl q1 q2).mp hc)
    exact rfl
  · replace H := H.2 (fun hz => hc ((lt_J rfl rfl q1 q2).mpr hz))
    exact rfl
theorem sz311 {E : gw_N} {N : NM} {x0 : Int} {x1 : Int} (H : Q311 N x0 x1) : Rn 311 [.int (J x0), .int (J x1)] (hs E (jm N)) (some (.int (J (G311 N x0 x1)))) (hs E (jm N)) := by
  have h := s311 (E := E) (M := jm N) (x0 := J x0) (x1 := J x1)
  rw [t311 H] at h
  exact h
-- 312 java/lang/Math min (II)I
theorem v312_0 {E : gw_N} {N : NM} {res : Option Value × gw_H} {x0 : Int} {x1 : Int} (H : ((R x1) ∧ ((R x0) ∧ ((x1 < x0 → res = (some (.int (J x1)), hs E (jm N))) ∧ (¬ x1 < x0 → res = (some (.int (J x0)), hs E (jm N))))))) : Ev 1 312 0 [some (.int (J x0)), some (.int (J x1))] [] (hs E (jm N)) res := by
  refine w312_0 ?_
  obtain ⟨q1, q2, H⟩ := H
  refine ⟨fun hc => ?_, fun hc => ?_⟩
  · replace H := H.1 ((lt_J rfl rfl q1 q2).mp hc)
    exact H.trans (rt_i rfl rfl)
  · replace H := H.2 (fun hz => hc ((lt_J rfl rfl q1 q2).mpr hz))
    exact H.trans (rt_i rfl rfl)
def G312 (N : NM) (x0 : Int) (x1 : Int) : Int := (if x1 < x0 then x1 else x0)
def Q312 (N : NM) (x0 : Int) (x1 : Int) : Prop := ((R x1) ∧ ((R x0) ∧ ((x1 < x0 → True) ∧ (¬ x1 < x0 → True))))
theorem t312 {N : NM} {x0 : Int} {x1 : Int} (H : Q312 N x0 x1) : F312 (jm N) (J x0) (J x1) = J (G312 N x0 x1) := by
  unfold Q312 at H
  unfold F312 G312
  obtain ⟨q1, q2, H⟩ := H
  refine ite_J (lt_J rfl rfl q1 q2) (fun hc => ?_) (fun hc => ?_)
  · replace H := H.1 ((lt_J rfl rfl q1 q2).mp hc)
    exact rfl
  · replace H := H.2 (fun hz => hc ((lt_J rfl rfl q1 q2).mpr hz))
    exact rfl
theorem sz312 {E : gw_N} {N : NM} {x0 : Int} {x1 : Int} (H : Q312 N x0 x1) : Rn 312 [.int (J x0), .int (J x1)] (hs E (jm N)) (some (.int (J (G312 N x0 x1)))) (hs E (jm N)) := by
  have h := s312 (E := E) (M := jm N) (x0 := J x0) (x1 := J x1)
  rw [t312 H] at h
  exact h
-- 313 java/util/Arrays fill ([II)V
theorem v313a23_0 {E : gw_N} {N : NM} {res : Option Value × gw_H} {x1 : Int} (H : Ev 1 313 5 [some (.ref 23), some (.int (J x1)), some (.int (J 0)), some (.int (J 178))] [] (hs E (jm N)) res) : Ev 1 313 0 [some (.ref 23), some (.int (J x1)), none, none] [] (hs E (jm N)) res := by
  refine w313a23_0 ?_
  exact Ev_to (clx (cli rfl (cli jl_0 (cli (jof 178) rfl)))) rfl rfl H
theorem v313a23_5 {E : gw_N} {N : NM} {res : Option Value × gw_H} {x1 : Int} {x2 : Int} {x3 : Int} (H : ((R x3) ∧ ((R x2) ∧ ((x3 ≤ x2 → res = (none, hs E (jm N))) ∧ (¬ x3 ≤ x2 → ((0 ≤ x2 ∧ x2 < 178) ∧ Ev 1 313 5 [some (.ref 23), some (.int (J x1)), some (.int (J (x2 + 1))), some (.int (J x3))] [] (hs E (jm (upZ N 23 (updZ (N 23) x2 x1)))) res)))))) : Ev 1 313 5 [some (.ref 23), some (.int (J x1)), some (.int (J x2)), some (.int (J x3))] [] (hs E (jm N)) res := by
  refine w313a23_5 ?_
  obtain ⟨q1, q2, H⟩ := H
  refine ⟨fun hc => ?_, fun hc => ?_⟩
  · replace H := H.1 ((le_J rfl rfl q1 q2).mp hc)
    exact H.trans (rt_n rfl)
  · replace H := H.2 (fun hz => hc ((le_J rfl rfl q1 q2).mpr hz))
    obtain ⟨q3, H⟩ := H
    refine ⟨inb_J rfl q3 (by decide), ?_⟩
    exact Ev_to (clx (cli rfl (cli (add_J rfl jl_1) (cli rfl rfl)))) rfl (jm_up rfl (jf_upd (jf_base _ _) rfl q3 (by decide) rfl)) H
-- 313 java/util/Arrays fill ([II)V
theorem v313a24_0 {E : gw_N} {N : NM} {res : Option Value × gw_H} {x1 : Int} (H : Ev 1 313 5 [some (.ref 24), some (.int (J x1)), some (.int (J 0)), some (.int (J 178))] [] (hs E (jm N)) res) : Ev 1 313 0 [some (.ref 24), some (.int (J x1)), none, none] [] (hs E (jm N)) res := by
  refine w313a24_0 ?_
  exact Ev_to (clx (cli rfl (cli jl_0 (cli (jof 178) rfl)))) rfl rfl H
theorem v313a24_5 {E : gw_N} {N : NM} {res : Option Value × gw_H} {x1 : Int} {x2 : Int} {x3 : Int} (H : ((R x3) ∧ ((R x2) ∧ ((x3 ≤ x2 → res = (none, hs E (jm N))) ∧ (¬ x3 ≤ x2 → ((0 ≤ x2 ∧ x2 < 178) ∧ Ev 1 313 5 [some (.ref 24), some (.int (J x1)), some (.int (J (x2 + 1))), some (.int (J x3))] [] (hs E (jm (upZ N 24 (updZ (N 24) x2 x1)))) res)))))) : Ev 1 313 5 [some (.ref 24), some (.int (J x1)), some (.int (J x2)), some (.int (J x3))] [] (hs E (jm N)) res := by
  refine w313a24_5 ?_
  obtain ⟨q1, q2, H⟩ := H
  refine ⟨fun hc => ?_, fun hc => ?_⟩
  · replace H := H.1 ((le_J rfl rfl q1 q2).mp hc)
    exact H.trans (rt_n rfl)
  · replace H := H.2 (fun hz => hc ((le_J rfl rfl q1 q2).mpr hz))
    obtain ⟨q3, H⟩ := H
    refine ⟨inb_J rfl q3 (by decide), ?_⟩
    exact Ev_to (clx (cli rfl (cli (add_J rfl jl_1) (cli rfl rfl)))) rfl (jm_up rfl (jf_upd (jf_base _ _) rfl q3 (by decide) rfl)) H
-- 313 java/util/Arrays fill ([II)V
theorem v313a25_0 {E : gw_N} {N : NM} {res : Option Value × gw_H} {x1 : Int} (H : Ev 1 313 5 [some (.ref 25), some (.int (J x1)), some (.int (J 0)), some (.int (J 89))] [] (hs E (jm N)) res) : Ev 1 313 0 [some (.ref 25), some (.int (J x1)), none, none] [] (hs E (jm N)) res := by
  refine w313a25_0 ?_
  exact Ev_to (clx (cli rfl (cli jl_0 (cli (jof 89) rfl)))) rfl rfl H
theorem v313a25_5 {E : gw_N} {N : NM} {res : Option Value × gw_H} {x1 : Int} {x2 : Int} {x3 : Int} (H : ((R x3) ∧ ((R x2) ∧ ((x3 ≤ x2 → res = (none, hs E (jm N))) ∧ (¬ x3 ≤ x2 → ((0 ≤ x2 ∧ x2 < 89) ∧ Ev 1 313 5 [some (.ref 25), some (.int (J x1)), some (.int (J (x2 + 1))), some (.int (J x3))] [] (hs E (jm (upZ N 25 (updZ (N 25) x2 x1)))) res)))))) : Ev 1 313 5 [some (.ref 25), some (.int (J x1)), some (.int (J x2)), some (.int (J x3))] [] (hs E (jm N)) res := by
  refine w313a25_5 ?_
  obtain ⟨q1, q2, H⟩ := H
  refine ⟨fun hc => ?_, fun hc => ?_⟩
  · replace H := H.1 ((le_J rfl rfl q1 q2).mp hc)
    exact H.trans (rt_n rfl)
  · replace H := H.2 (fun hz => hc ((le_J rfl rfl q1 q2).mpr hz))
    obtain ⟨q3, H⟩ := H
    refine ⟨inb_J rfl q3 (by decide), ?_⟩
    exact Ev_to (clx (cli rfl (cli (add_J rfl jl_1) (cli rfl rfl)))) rfl (jm_up rfl (jf_upd (jf_base _ _) rfl q3 (by decide) rfl)) H
-- 313 java/util/Arrays fill ([II)V
theorem v313a26_0 {E : gw_N} {N : NM} {res : Option Value × gw_H} {x1 : Int} (H : Ev 1 313 5 [some (.ref 26), some (.int (J x1)), some (.int (J 0)), some (.int (J 178))] [] (hs E (jm N)) res) : Ev 1 313 0 [some (.ref 26), some (.int (J x1)), none, none] [] (hs E (jm N)) res := by
  refine w313a26_0 ?_
  exact Ev_to (clx (cli rfl (cli jl_0 (cli (jof 178) rfl)))) rfl rfl H
theorem v313a26_5 {E : gw_N} {N : NM} {res : Option Value × gw_H} {x1 : Int} {x2 : Int} {x3 : Int} (H : ((R x3) ∧ ((R x2) ∧ ((x3 ≤ x2 → res = (none, hs E (jm N))) ∧ (¬ x3 ≤ x2 → ((0 ≤ x2 ∧ x2 < 178) ∧ Ev 1 313 5 [some (.ref 26), some (.int (J x1)), some (.int (J (x2 + 1))), some (.int (J x3))] [] (hs E (jm (upZ N 26 (updZ (N 26) x2 x1)))) res)))))) : Ev 1 313 5 [some (.ref 26), some (.int (J x1)), some (.int (J x2)), some (.int (J x3))] [] (hs E (jm N)) res := by
  refine w313a26_5 ?_
  obtain ⟨q1, q2, H⟩ := H
  refine ⟨fun hc => ?_, fun hc => ?_⟩
  · replace H := H.1 ((le_J rfl rfl q1 q2).mp hc)
    exact H.trans (rt_n rfl)
  · replace H := H.2 (fun hz => hc ((le_J rfl rfl q1 q2).mpr hz))
    obtain ⟨q3, H⟩ := H
    refine ⟨inb_J rfl q3 (by decide), ?_⟩
    exact Ev_to (clx (cli rfl (cli (add_J rfl jl_1) (cli rfl rfl)))) rfl (jm_up rfl (jf_upd (jf_base _ _) rfl q3 (by decide) rfl)) H
-- 313 java/util/Arrays fill ([II)V
theorem v313a27_0 {E : gw_N} {N : NM} {res : Option Value × gw_H} {x1 : Int} (H : Ev 1 313 5 [some (.ref 27), some (.int (J x1)), some (.int (J 0)), some (.int (J 89))] [] (hs E (jm N)) res) : Ev 1 313 0 [some (.ref 27), some (.int (J x1)), none, none] [] (hs E (jm N)) res := by
  refine w313a27_0 ?_
  exact Ev_to (clx (cli rfl (cli jl_0 (cli (jof 89) rfl)))) rfl rfl H
theorem v313a27_5 {E : gw_N} {N : NM} {res : Option Value × gw_H} {x1 : Int} {x2 : Int} {x3 : Int} (H : ((R x3) ∧ ((R x2) ∧ ((x3 ≤ x2 → res = (none, hs E (jm N))) ∧ (¬ x3 ≤ x2 → ((0 ≤ x2 ∧ x2 < 89) ∧ Ev 1 313 5 [some (.ref 27), some (.int (J x1)), some (.int (J (x2 + 1))), some (.int (J x3))] [] (hs E (jm (upZ N 27 (updZ (N 27) x2 x1)))) res)))))) : Ev 1 313 5 [some (.ref 27), some (.int (J x1)), some (.int (J x2)), some (.int (J x3))] [] (hs E (jm N)) res := by
  refine w313a27_5 ?_
  obtain ⟨q1, q2, H⟩ := H
  refine ⟨fun hc => ?_, fun hc => ?_⟩
  · replace H := H.1 ((le_J rfl rfl q1 q2).mp hc)
    exact H.trans (rt_n rfl)
  · replace H := H.2 (fun hz => hc ((le_J rfl rfl q1 q2).mpr hz))
    obtain ⟨q3, H⟩ := H
    refine ⟨inb_J rfl q3 (by decide), ?_⟩
    exact Ev_to (clx (cli rfl (cli (add_J rfl jl_1) (cli rfl rfl)))) rfl (jm_up rfl (jf_upd (jf_base _ _) rfl q3 (by decide) rfl)) H
-- 313 java/util/Arrays fill ([II)V
theorem v313a28_0 {E : gw_N} {N : NM} {res : Option Value × gw_H} {x1 : Int} (H : Ev 1 313 5 [some (.ref 28), some (.int (J x1)), some (.int (J 0)), some (.int (J 30))] [] (hs E (jm N)) res) : Ev 1 313 0 [some (.ref 28), some (.int (J x1)), none, none] [] (hs E (jm N)) res := by
  refine w313a28_0 ?_
  exact Ev_to (clx (cli rfl (cli jl_0 (cli (jof 30) rfl)))) rfl rfl H
theorem v313a28_5 {E : gw_N} {N : NM} {res : Option Value × gw_H} {x1 : Int} {x2 : Int} {x3 : Int} (H : ((R x3) ∧ ((R x2) ∧ ((x3 ≤ x2 → res = (none, hs E (jm N))) ∧ (¬ x3 ≤ x2 → ((0 ≤ x2 ∧ x2 < 30) ∧ Ev 1 313 5 [some (.ref 28), some (.int (J x1)), some (.int (J (x2 + 1))), some (.int (J x3))] [] (hs E (jm (upZ N 28 (updZ (N 28) x2 x1)))) res)))))) : Ev 1 313 5 [some (.ref 28), some (.int (J x1)), some (.int (J x2)), some (.int (J x3))] [] (hs E (jm N)) res := by
  refine w313a28_5 ?_
  obtain ⟨q1, q2, H⟩ := H
  refine ⟨fun hc => ?_, fun hc => ?_⟩
  · replace H := H.1 ((le_J rfl rfl q1 q2).mp hc)
    exact H.trans (rt_n rfl)
  · replace H := H.2 (fun hz => hc ((le_J rfl rfl q1 q2).mpr hz))
    obtain ⟨q3, H⟩ := H
    refine ⟨inb_J rfl q3 (by decide), ?_⟩
    exact Ev_to (clx (cli rfl (cli (add_J rfl jl_1) (cli rfl rfl)))) rfl (jm_up rfl (jf_upd (jf_base _ _) rfl q3 (by decide) rfl)) H
-- 313 java/util/Arrays fill ([II)V
theorem v313a29_0 {E : gw_N} {N : NM} {res : Option Value × gw_H} {x1 : Int} (H : Ev 1 313 5 [some (.ref 29), some (.int (J x1)), some (.int (J 0)), some (.int (J 89))] [] (hs E (jm N)) res) : Ev 1 313 0 [some (.ref 29), some (.int (J x1)), none, none] [] (hs E (jm N)) res := by
  refine w313a29_0 ?_
  exact Ev_to (clx (cli rfl (cli jl_0 (cli (jof 89) rfl)))) rfl rfl H
theorem v313a29_5 {E : gw_N} {N : NM} {res : Option Value × gw_H} {x1 : Int} {x2 : Int} {x3 : Int} (H : ((R x3) ∧ ((R x2) ∧ ((x3 ≤ x2 → res = (none, hs E (jm N))) ∧ (¬ x3 ≤ x2 → ((0 ≤ x2 ∧ x2 < 89) ∧ Ev 1 313 5 [some (.ref 29), some (.int (J x1)), some (.int (J (x2 + 1))), some (.int (J x3))] [] (hs E (jm (upZ N 29 (updZ (N 29) x2 x1)))) res)))))) : Ev 1 313 5 [some (.ref 29), some (.int (J x1)), some (.int (J x2)), some (.int (J x3))] [] (hs E (jm N)) res := by
  refine w313a29_5 ?_
  obtain ⟨q1, q2, H⟩ := H
  refine ⟨fun hc => ?_, fun hc => ?_⟩
  · replace H := H.1 ((le_J rfl rfl q1 q2).mp hc)
    exact H.trans (rt_n rfl)
  · replace H := H.2 (fun hz => hc ((le_J rfl rfl q1 q2).mpr hz))
    obtain ⟨q3, H⟩ := H
    refine ⟨inb_J rfl q3 (by decide), ?_⟩
    exact Ev_to (clx (cli rfl (cli (add_J rfl jl_1) (cli rfl rfl)))) rfl (jm_up rfl (jf_upd (jf_base _ _) rfl q3 (by decide) rfl)) H
-- 313 java/util/Arrays fill ([II)V
theorem v313a30_0 {E : gw_N} {N : NM} {res : Option Value × gw_H} {x1 : Int} (H : Ev 1 313 5 [some (.ref 30), some (.int (J x1)), some (.int (J 0)), some (.int (J 89))] [] (hs E (jm N)) res) : Ev 1 313 0 [some (.ref 30), some (.int (J x1)), none, none] [] (hs E (jm N)) res := by
  refine w313a30_0 ?_
  exact Ev_to (clx (cli rfl (cli jl_0 (cli (jof 89) rfl)))) rfl rfl H
theorem v313a30_5 {E : gw_N} {N : NM} {res : Option Value × gw_H} {x1 : Int} {x2 : Int} {x3 : Int} (H : ((R x3) ∧ ((R x2) ∧ ((x3 ≤ x2 → res = (none, hs E (jm N))) ∧ (¬ x3 ≤ x2 → ((0 ≤ x2 ∧ x2 < 89) ∧ Ev 1 313 5 [some (.ref 30), some (.int (J x1)), some (.int (J (x2 + 1))), some (.int (J x3))] [] (hs E (jm (upZ N 30 (updZ (N 30) x2 x1)))) res)))))) : Ev 1 313 5 [some (.ref 30), some (.int (J x1)), some (.int (J x2)), some (.int (J x3))] [] (hs E (jm N)) res := by
  refine w313a30_5 ?_
  obtain ⟨q1, q2, H⟩ := H
  refine ⟨fun hc => ?_, fun hc => ?_⟩
  · replace H := H.1 ((le_J rfl rfl q1 q2).mp hc)
    exact H.trans (rt_n rfl)
  · replace H := H.2 (fun hz => hc ((le_J rfl rfl q1 q2).mpr hz))
    obtain ⟨q3, H⟩ := H
    refine ⟨inb_J rfl q3 (by decide), ?_⟩
    exact Ev_to (clx (cli rfl (cli (add_J rfl jl_1) (cli rfl rfl)))) rfl (jm_up rfl (jf_upd (jf_base _ _) rfl q3 (by decide) rfl)) H
-- 313 java/util/Arrays fill ([II)V
theorem v313a33_0 {E : gw_N} {N : NM} {res : Option Value × gw_H} {x1 : Int} (H : Ev 1 313 5 [some (.ref 33), some (.int (J x1)), some (.int (J 0)), some (.int (J 64))] [] (hs E (jm N)) res) : Ev 1 313 0 [some (.ref 33), some (.int (J x1)), none, none] [] (hs E (jm N)) res := by
  refine w313a33_0 ?_
  exact Ev_to (clx (cli rfl (cli jl_0 (cli (jof 64) rfl)))) rfl rfl H
theorem v313a33_5 {E : gw_N} {N : NM} {res : Option Value × gw_H} {x1 : Int} {x2 : Int} {x3 : Int} (H : ((R x3) ∧ ((R x2) ∧ ((x3 ≤ x2 → res = (none, hs E (jm N))) ∧ (¬ x3 ≤ x2 → ((0 ≤ x2 ∧ x2 < 64) ∧ Ev 1 313 5 [some (.ref 33), some (.int (J x1)), some (.int (J (x2 + 1))), some (.int (J x3))] [] (hs E (jm (upZ N 33 (updZ (N 33) x2 x1)))) res)))))) : Ev 1 313 5 [some (.ref 33), some (.int (J x1)), some (.int (J x2)), some (.int (J x3))] [] (hs E (jm N)) res := by
  refine w313a33_5 ?_
  obtain ⟨q1, q2, H⟩ := H
  refine ⟨fun hc => ?_, fun hc => ?_⟩
  · replace H := H.1 ((le_J rfl rfl q1 q2).mp hc)
    exact H.trans (rt_n rfl)
  · replace H := H.2 (fun hz => hc ((le_J rfl rfl q1 q2).mpr hz))
    obtain ⟨q3, H⟩ := H
    refine ⟨inb_J rfl q3 (by decide), ?_⟩
    exact Ev_to (clx (cli rfl (cli (add_J rfl jl_1) (cli rfl rfl)))) rfl (jm_up rfl (jf_upd (jf_base _ _) rfl q3 (by decide) rfl)) H
-- 313 java/util/Arrays fill ([II)V
theorem v313a38_0 {E : gw_N} {N : NM} {res : Option Value × gw_H} {x1 : Int} (H : Ev 1 313 5 [some (.ref 38), some (.int (J x1)), some (.int (J 0)), some (.int (J 10))] [] (hs E (jm N)) res) : Ev 1 313 0 [some (.ref 38), some (.int (J x1)), none, none] [] (hs E (jm N)) res := by
  refine w313a38_0 ?_
  exact Ev_to (clx (cli rfl (cli jl_0 (cli (jof 10) rfl)))) rfl rfl H
theorem v313a38_5 {E : gw_N} {N : NM} {res : Option Value × gw_H} {x1 : Int} {x2 : Int} {x3 : Int} (H : ((R x3) ∧ ((R x2) ∧ ((x3 ≤ x2 → res = (none, hs E (jm N))) ∧ (¬ x3 ≤ x2 → ((0 ≤ x2 ∧ x2 < 10) ∧ Ev 1 313 5 [some (.ref 38), some (.int (J x1)), some (.int (J (x2 + 1))), some (.int (J x3))] [] (hs E (jm (upZ N 38 (updZ (N 38) x2 x1)))) res)))))) : Ev 1 313 5 [some (.ref 38), some (.int (J x1)), some (.int (J x2)), some (.int (J x3))] [] (hs E (jm N)) res := by
  refine w313a38_5 ?_
  obtain ⟨q1, q2, H⟩ := H
  refine ⟨fun hc => ?_, fun hc => ?_⟩
  · replace H := H.1 ((le_J rfl rfl q1 q2).mp hc)
    exact H.trans (rt_n rfl)
  · replace H := H.2 (fun hz => hc ((le_J rfl rfl q1 q2).mpr hz))
    obtain ⟨q3, H⟩ := H
    refine ⟨inb_J rfl q3 (by decide), ?_⟩
    exact Ev_to (clx (cli rfl (cli (add_J rfl jl_1) (cli rfl rfl)))) rfl (jm_up rfl (jf_upd (jf_base _ _) rfl q3 (by decide) rfl)) H
-- 313 java/util/Arrays fill ([II)V
theorem v313a45_0 {E : gw_N} {N : NM} {res : Option Value × gw_H} {x1 : Int} (H : Ev 1 313 5 [some (.ref 45), some (.int (J x1)), some (.int (J 0)), some (.int (J 64))] [] (hs E (jm N)) res) : Ev 1 313 0 [some (.ref 45), some (.int (J x1)), none, none] [] (hs E (jm N)) res := by
  refine w313a45_0 ?_
  exact Ev_to (clx (cli rfl (cli jl_0 (cli (jof 64) rfl)))) rfl rfl H
theorem v313a45_5 {E : gw_N} {N : NM} {res : Option Value × gw_H} {x1 : Int} {x2 : Int} {x3 : Int} (H : ((R x3) ∧ ((R x2) ∧ ((x3 ≤ x2 → res = (none, hs E (jm N))) ∧ (¬ x3 ≤ x2 → ((0 ≤ x2 ∧ x2 < 64) ∧ Ev 1 313 5 [some (.ref 45), some (.int (J x1)), some (.int (J (x2 + 1))), some (.int (J x3))] [] (hs E (jm (upZ N 45 (updZ (N 45) x2 x1)))) res)))))) : Ev 1 313 5 [some (.ref 45), some (.int (J x1)), some (.int (J x2)), some (.int (J x3))] [] (hs E (jm N)) res := by
  refine w313a45_5 ?_
  obtain ⟨q1, q2, H⟩ := H
  refine ⟨fun hc => ?_, fun hc => ?_⟩
  · replace H := H.1 ((le_J rfl rfl q1 q2).mp hc)
    exact H.trans (rt_n rfl)
  · replace H := H.2 (fun hz => hc ((le_J rfl rfl q1 q2).mpr hz))
    obtain ⟨q3, H⟩ := H
    refine ⟨inb_J rfl q3 (by decide), ?_⟩
    exact Ev_to (clx (cli rfl (cli (add_J rfl jl_1) (cli rfl rfl)))) rfl (jm_up rfl (jf_upd (jf_base _ _) rfl q3 (by decide) rfl)) H
-- 313 java/util/Arrays fill ([II)V
theorem v313a58_0 {E : gw_N} {N : NM} {res : Option Value × gw_H} {x1 : Int} (H : Ev 1 313 5 [some (.ref 58), some (.int (J x1)), some (.int (J 0)), some (.int (J 256))] [] (hs E (jm N)) res) : Ev 1 313 0 [some (.ref 58), some (.int (J x1)), none, none] [] (hs E (jm N)) res := by
  refine w313a58_0 ?_
  exact Ev_to (clx (cli rfl (cli jl_0 (cli (jof 256) rfl)))) rfl rfl H
theorem v313a58_5 {E : gw_N} {N : NM} {res : Option Value × gw_H} {x1 : Int} {x2 : Int} {x3 : Int} (H : ((R x3) ∧ ((R x2) ∧ ((x3 ≤ x2 → res = (none, hs E (jm N))) ∧ (¬ x3 ≤ x2 → ((0 ≤ x2 ∧ x2 < 256) ∧ Ev 1 313 5 [some (.ref 58), some (.int (J x1)), some (.int (J (x2 + 1))), some (.int (J x3))] [] (hs E (jm (upZ N 58 (updZ (N 58) x2 x1)))) res)))))) : Ev 1 313 5 [some (.ref 58), some (.int (J x1)), some (.int (J x2)), some (.int (J x3))] [] (hs E (jm N)) res := by
  refine w313a58_5 ?_
  obtain ⟨q1, q2, H⟩ := H
  refine ⟨fun hc => ?_, fun hc => ?_⟩
  · replace H := H.1 ((le_J rfl rfl q1 q2).mp hc)
    exact H.trans (rt_n rfl)
  · replace H := H.2 (fun hz => hc ((le_J rfl rfl q1 q2).mpr hz))
    obtain ⟨q3, H⟩ := H
    refine ⟨inb_J rfl q3 (by decide), ?_⟩
    exact Ev_to (clx (cli rfl (cli (add_J rfl jl_1) (cli rfl rfl)))) rfl (jm_up rfl (jf_upd (jf_base _ _) rfl q3 (by decide) rfl)) H
-- 7 GlassWires$Cells greatest ()I
theorem v7_0 {E : gw_N} {N : NM} {res : Option Value × gw_H}  (H : Ev 2 7 4 [some (.ref 32), some (.int (J 0)), some (.int (J 0))] [] (hs E (jm N)) res) : Ev 2 7 0 [some (.ref 32), none, none] [] (hs E (jm N)) res := by
  refine w7_0 ?_
  exact Ev_to (clx (cli jl_0 (cli jl_0 rfl))) rfl rfl H
theorem v7_4 {E : gw_N} {N : NM} {res : Option Value × gw_H} {x1 : Int} {x2 : Int} (H : ((R (G40 N)) ∧ ((R x2) ∧ (((G40 N) ≤ x2 → res = (some (.int (J x1)), hs E (jm N))) ∧ (¬ (G40 N) ≤ x2 → ((Q5 N x2) ∧ ((R (G5 N x2)) ∧ (((G5 N x2) = 0 → Ev 2 7 4 [some (.ref 32), some (.int (J x1)), some (.int (J (x2 + 1)))] [] (hs E (jm N)) res) ∧ (¬ (G5 N x2) = 0 → ((0 ≤ x2 ∧ x2 < 64) ∧ ((Q311 N x1 ((N 34) x2)) ∧ Ev 2 7 4 [some (.ref 32), some (.int (J (G311 N x1 ((N 34) x2)))), some (.int (J (x2 + 1)))] [] (hs E (jm N)) res))))))))))) : Ev 2 7 4 [some (.ref 32), some (.int (J x1)), some (.int (J x2))] [] (hs E (jm N)) res := by
  refine w7_4 ?_
  obtain ⟨q1, q2, H⟩ := H
  refine ⟨fun hc => ?_, fun hc => ?_⟩
  · replace H := H.1 ((le_J ((congrArg F40 rfl).trans (t40)) rfl q1 q2).mp hc)
    exact H.trans (rt_i rfl rfl)
  · replace H := H.2 (fun hz => hc ((le_J ((congrArg F40 rfl).trans (t40)) rfl q1 q2).mpr hz))
    obtain ⟨q3, H⟩ := H
    refine ⟨Eq.mpr (congr (congrArg P5 rfl) rfl) (p5 q3), ?_⟩
    obtain ⟨q4, H⟩ := H
    refine ⟨fun hc => ?_, fun hc => ?_⟩
    · replace H := H.1 ((eq_J ((congr (congrArg F5 rfl) rfl).trans (t5 q3)) jl_0 q4 (by decide)).mp hc)
      exact Ev_to (clx (cli rfl (cli (add_J rfl jl_1) rfl))) rfl rfl H
    · replace H := H.2 (fun hz => hc ((eq_J ((congr (congrArg F5 rfl) rfl).trans (t5 q3)) jl_0 q4 (by decide)).mpr hz))
      obtain ⟨q5, H⟩ := H
      refine ⟨inb_J rfl q5 (by decide), ?_⟩
      obtain ⟨q6, H⟩ := H
      exact Ev_to (clx (cli ((congr (congr (congrArg F311 rfl) rfl) (rd_J (jf_base _ _) rfl q5 (by decide))).trans (t311 q6)) (cli (add_J rfl jl_1) rfl))) rfl rfl H
-- 9 GlassWires$Glass clear ()V
theorem v9_0 {E : gw_N} {N : NM} {res : Option Value × gw_H}  (H : (∃ (N1 : NM), Rn 313 [.ref 45, .int (J 0)] (hs E (jm N)) none (hs E (jm N1)) ∧ res = (none, hs E (jm (upZ N1 44 (updZ (N1 44) 9 0)))))) : Ev 2 9 0 [some (.ref 44)] [] (hs E (jm N)) res := by
  refine w9_0 ?_
  obtain ⟨N1, q1, H⟩ := H
  refine ⟨jm N1, Rn_to (clx (cai jl_0 rfl)) rfl rfl q1, ?_⟩
  exact H.trans (rt_n (jm_up rfl (jf_updk (jf_base _ _) jl_0)))
-- 12 GlassWires$Glass layersInAll ()I
theorem v12_0 {E : gw_N} {N : NM} {res : Option Value × gw_H}  (H : Ev 2 12 4 [some (.ref 44), some (.int (J 0)), some (.int (J 0))] [] (hs E (jm N)) res) : Ev 2 12 0 [some (.ref 44), none, none] [] (hs E (jm N)) res := by
  refine w12_0 ?_
  exact Ev_to (clx (cli jl_0 (cli jl_0 rfl))) rfl rfl H
theorem v12_4 {E : gw_N} {N : NM} {res : Option Value × gw_H} {x1 : Int} {x2 : Int} (H : ((R (G40 N)) ∧ ((R x2) ∧ (((G40 N) ≤ x2 → res = (some (.int (J x1)), hs E (jm N))) ∧ (¬ (G40 N) ≤ x2 → ((0 ≤ x2 ∧ x2 < 64) ∧ Ev 2 12 4 [some (.ref 44), some (.int (J (x1 + ((N 45) x2)))), some (.int (J (x2 + 1)))] [] (hs E (jm N)) res)))))) : Ev 2 12 4 [some (.ref 44), some (.int (J x1)), some (.int (J x2))] [] (hs E (jm N)) res := by
  refine w12_4 ?_
  obtain ⟨q1, q2, H⟩ := H
  refine ⟨fun hc => ?_, fun hc => ?_⟩
  · replace H := H.1 ((le_J ((congrArg F40 rfl).trans (t40)) rfl q1 q2).mp hc)
    exact H.trans (rt_i rfl rfl)
  · replace H := H.2 (fun hz => hc ((le_J ((congrArg F40 rfl).trans (t40)) rfl q1 q2).mpr hz))
    obtain ⟨q3, H⟩ := H
    refine ⟨inb_J rfl q3 (by decide), ?_⟩
    exact Ev_to (clx (cli (add_J rfl (rd_J (jf_base _ _) rfl q3 (by decide))) (cli (add_J rfl jl_1) rfl))) rfl rfl H
-- 16 GlassWires$Glass hasRoom (I)Z
theorem v16_0 {E : gw_N} {N : NM} {res : Option Value × gw_H} {x1 : Int} (H : Ev 2 16 2 [some (.ref 44), some (.int (J x1)), some (.int (J 0))] [] (hs E (jm N)) res) : Ev 2 16 0 [some (.ref 44), some (.int (J x1)), none] [] (hs E (jm N)) res := by
  refine w16_0 ?_
  exact Ev_to (clx (cli rfl (cli jl_0 rfl))) rfl rfl H
theorem v16_2 {E : gw_N} {N : NM} {res : Option Value × gw_H} {x1 : Int} {x2 : Int} (H : ((R (G40 N)) ∧ ((R x2) ∧ (((G40 N) ≤ x2 → res = (some (.int (J 1)), hs E (jm N))) ∧ (¬ (G40 N) ≤ x2 → ((Q4 N x2) ∧ ((R (G4 N x2)) ∧ ((R x1) ∧ (((G4 N x2) = x1 → ((0 ≤ x2 ∧ x2 < 64) ∧ ((R ((N 45) x2)) ∧ ((((N 45) x2) < 12 → Ev 2 16 2 [some (.ref 44), some (.int (J x1)), some (.int (J (x2 + 1)))] [] (hs E (jm N)) res) ∧ (¬ ((N 45) x2) < 12 → res = (some (.int (J 0)), hs E (jm N))))))) ∧ (¬ (G4 N x2) = x1 → Ev 2 16 2 [some (.ref 44), some (.int (J x1)), some (.int (J (x2 + 1)))] [] (hs E (jm N)) res)))))))))) : Ev 2 16 2 [some (.ref 44), some (.int (J x1)), some (.int (J x2))] [] (hs E (jm N)) res := by
  refine w16_2 ?_
  obtain ⟨q1, q2, H⟩ := H
  refine ⟨fun hc => ?_, fun hc => ?_⟩
  · replace H := H.1 ((le_J ((congrArg F40 rfl).trans (t40)) rfl q1 q2).mp hc)
    exact H.trans (rt_i jl_1 rfl)
  · replace H := H.2 (fun hz => hc ((le_J ((congrArg F40 rfl).trans (t40)) rfl q1 q2).mpr hz))
    obtain ⟨q3, H⟩ := H
    refine ⟨Eq.mpr (congr (congrArg P4 rfl) rfl) (p4 q3), ?_⟩
    obtain ⟨q4, q5, H⟩ := H
    refine ⟨fun hc => ?_, fun hc => ?_⟩
    · replace H := H.1 ((eq_J ((congr (congrArg F4 rfl) rfl).trans (t4 q3)) rfl q4 q5).mp hc)
      obtain ⟨q6, H⟩ := H
      refine ⟨inb_J rfl q6 (by decide), ?_⟩
      obtain ⟨q7, H⟩ := H
      refine ⟨fun hc => ?_, fun hc => ?_⟩
      · replace H := H.1 ((lt_J (rd_J (jf_base _ _) rfl q6 (by decide)) jl_12 q7 (by decide)).mp hc)
        exact Ev_to (clx (cli rfl (cli (add_J rfl jl_1) rfl))) rfl rfl H
      · replace H := H.2 (fun hz => hc ((lt_J (rd_J (jf_base _ _) rfl q6 (by decide)) jl_12 q7 (by decide)).mpr hz))
        exact H.trans (rt_i jl_0 rfl)
    · replace H := H.2 (fun hz => hc ((eq_J ((congr (congrArg F4 rfl) rfl).trans (t4 q3)) rfl q4 q5).mpr hz))
      exact Ev_to (clx (cli rfl (cli (add_J rfl jl_1) rfl))) rfl rfl H
-- 17 GlassWires$Glass pour (III)I
theorem v17_0 {E : gw_N} {N : NM} {res : Option Value × gw_H} {x1 : Int} {x2 : Int} {x3 : Int} (H : Ev 2 17 6 [some (.ref 44), some (.int (J x1)), some (.int (J x2)), some (.int (J x3)), some (.int (J 0)), some (.int (J 0)), none] [] (hs E (jm N)) res) : Ev 2 17 0 [some (.ref 44), some (.int (J x1)), some (.int (J x2)), some (.int (J x3)), none, none, none] [] (hs E (jm N)) res := by
  refine w17_0 ?_
  exact Ev_to (clx (cli rfl (cli rfl (cli rfl (cli jl_0 (cli jl_0 (clx rfl))))))) rfl rfl H
theorem v17_6 {E : gw_N} {N : NM} {res : Option Value × gw_H} {x1 : Int} {x2 : Int} {x3 : Int} {x4 : Int} {x5 : Int} (H : ((R (G40 N)) ∧ ((R x5) ∧ (((G40 N) ≤ x5 → res = (some (.int (J x4)), hs E (jm N))) ∧ (¬ (G40 N) ≤ x5 → ((Q4 N x5) ∧ ((R (G4 N x5)) ∧ ((R x1) ∧ (((G4 N x5) = x1 → ((0 ≤ x5 ∧ x5 < 64) ∧ ((R ((N 45) x5)) ∧ (((12 : Int) ≤ ((N 45) x5) → Ev 2 17 6 [some (.ref 44), some (.int (J x1)), some (.int (J x2)), some (.int (J x3)), some (.int (J x4)), some (.int (J (x5 + 1))), none] [] (hs E (jm N)) res) ∧ (¬ (12 : Int) ≤ ((N 45) x5) → ((0 ≤ ((12 * x5) + ((N 45) x5)) ∧ ((12 * x5) + ((N 45) x5)) < 768) ∧ Ev 2 17 6 [some (.ref 44), some (.int (J x1)), some (.int (J x2)), some (.int (J x3)), some (.int (J (x4 + 1))), some (.int (J (x5 + 1))), none] [] (hs E (jm (upZ (upZ (upZ (upZ N 46 (updZ (N 46) ((12 * x5) + ((N 45) x5)) x2)) 47 (updZ (N 47) ((12 * x5) + ((N 45) x5)) x3)) 48 (updZ (N 48) ((12 * x5) + ((N 45) x5)) 0)) 45 (updZ (N 45) x5 (((N 45) x5) + 1))))) res)))))) ∧ (¬ (G4 N x5) = x1 → Ev 2 17 6 [some (.ref 44), some (.int (J x1)), some (.int (J x2)), some (.int (J x3)), some (.int (J x4)), some (.int (J (x5 + 1))), none] [] (hs E (jm N)) res)))))))))) : Ev 2 17 6 [some (.ref 44), some (.int (J x1)), some (.int (J x2)), some (.int (J x3)), some (.int (J x4)), some (.int (J x5)), none] [] (hs E (jm N)) res := by
  refine w17_6 ?_
  obtain ⟨q1, q2, H⟩ := H
  refine ⟨fun hc => ?_, fun hc => ?_⟩
  · replace H := H.1 ((le_J ((congrArg F40 rfl).trans (t40)) rfl q1 q2).mp hc)
    exact H.trans (rt_i rfl rfl)
  · replace H := H.2 (fun hz => hc ((le_J ((congrArg F40 rfl).trans (t40)) rfl q1 q2).mpr hz))
    obtain ⟨q3, H⟩ := H
    refine ⟨Eq.mpr (congr (congrArg P4 rfl) rfl) (p4 q3), ?_⟩
    obtain ⟨q4, q5, H⟩ := H
    refine ⟨fun hc => ?_, fun hc => ?_⟩
    · replace H := H.1 ((eq_J ((congr (congrArg F4 rfl) rfl).trans (t4 q3)) rfl q4 q5).mp hc)
      obtain ⟨q6, H⟩ := H
      refine ⟨inb_J rfl q6 (by decide), ?_⟩
      obtain ⟨q7, H⟩ := H
      refine ⟨fun hc => ?_, fun hc => ?_⟩
      · replace H := H.1 ((le_J jl_12 (rd_J (jf_base _ _) rfl q6 (by decide)) (by decide) q7).mp hc)
        exact Ev_to (clx (cli rfl (cli rfl (cli rfl (cli rfl (cli (add_J rfl jl_1) (clx rfl))))))) rfl rfl H
      · replace H := H.2 (fun hz => hc ((le_J jl_12 (rd_J (jf_base _ _) rfl q6 (by decide)) (by decide) q7).mpr hz))
        refine ⟨inb_J rfl q6 (by decide), ?_⟩
        obtain ⟨q8, H⟩ := H
        refine ⟨inb_J (add_J (mul_J jl_12 rfl) (rd_J (jf_base _ _) rfl q6 (by decide))) q8 (by decide), ?_⟩
        refine ⟨inb_J (add_J (mul_J jl_12 rfl) (rd_J (jf_base _ _) rfl q6 (by decide))) q8 (by decide), ?_⟩
        refine ⟨inb_J (add_J (mul_J jl_12 rfl) (rd_J (jf_base _ _) rfl q6 (by decide))) q8 (by decide), ?_⟩
        refine ⟨inb_J rfl q6 (by decide), ?_⟩
        refine ⟨inb_J rfl q6 (by decide), ?_⟩
        exact Ev_to (clx (cli rfl (cli rfl (cli rfl (cli (add_J rfl jl_1) (cli (add_J rfl jl_1) (clx rfl))))))) rfl (jm_up (jm_up (jm_up (jm_up rfl (jf_upd (jf_base _ _) (add_J (mul_J jl_12 rfl) (rd_J (jf_base _ _) rfl q6 (by decide))) q8 (by decide) rfl)) (jf_upd (jf_base _ _) (add_J (mul_J jl_12 rfl) (rd_J (jf_base _ _) rfl q6 (by decide))) q8 (by decide) rfl)) (jf_upd (jf_base _ _) (add_J (mul_J jl_12 rfl) (rd_J (jf_base _ _) rfl q6 (by decide))) q8 (by decide) jl_0)) (jf_upd (jf_base _ _) rfl q6 (by decide) (add_J (rd_J (jf_base _ _) rfl q6 (by decide)) jl_1))) H
    · replace H := H.2 (fun hz => hc ((eq_J ((congr (congrArg F4 rfl) rfl).trans (t4 q3)) rfl q4 q5).mpr hz))
      exact Ev_to (clx (cli rfl (cli rfl (cli rfl (cli rfl (cli (add_J rfl jl_1) (clx rfl))))))) rfl rfl H
-- 18 GlassWires$Glass takeOut (I)I
theorem v18_0 {E : gw_N} {N : NM} {res : Option Value × gw_H} {x1 : Int} (H : Ev 2 18 4 [some (.ref 44), some (.int (J x1)), some (.int (J 0)), some (.int (J 0))] [] (hs E (jm N)) res) : Ev 2 18 0 [some (.ref 44), some (.int (J x1)), none, none] [] (hs E (jm N)) res := by
  refine w18_0 ?_
  exact Ev_to (clx (cli rfl (cli jl_0 (cli jl_0 rfl)))) rfl rfl H
theorem v18_4 {E : gw_N} {N : NM} {res : Option Value × gw_H} {x1 : Int} {x2 : Int} {x3 : Int} (H : ((R (G40 N)) ∧ ((R x3) ∧ (((G40 N) ≤ x3 → res = (some (.int (J x2)), hs E (jm N))) ∧ (¬ (G40 N) ≤ x3 → ((Q4 N x3) ∧ ((R (G4 N x3)) ∧ ((R x1) ∧ (((G4 N x3) = x1 → ((0 ≤ x3 ∧ x3 < 64) ∧ Ev 2 18 4 [some (.ref 44), some (.int (J x1)), some (.int (J (x2 + ((N 45) x3)))), some (.int (J (x3 + 1)))] [] (hs E (jm (upZ N 45 (updZ (N 45) x3 0)))) res)) ∧ (¬ (G4 N x3) = x1 → Ev 2 18 4 [some (.ref 44), some (.int (J x1)), some (.int (J x2)), some (.int (J (x3 + 1)))] [] (hs E (jm N)) res)))))))))) : Ev 2 18 4 [some (.ref 44), some (.int (J x1)), some (.int (J x2)), some (.int (J x3))] [] (hs E (jm N)) res := by
  refine w18_4 ?_
  obtain ⟨q1, q2, H⟩ := H
  refine ⟨fun hc => ?_, fun hc => ?_⟩
  · replace H := H.1 ((le_J ((congrArg F40 rfl).trans (t40)) rfl q1 q2).mp hc)
    exact H.trans (rt_i rfl rfl)
  · replace H := H.2 (fun hz => hc ((le_J ((congrArg F40 rfl).trans (t40)) rfl q1 q2).mpr hz))
    obtain ⟨q3, H⟩ := H
    refine ⟨Eq.mpr (congr (congrArg P4 rfl) rfl) (p4 q3), ?_⟩
    obtain ⟨q4, q5, H⟩ := H
    refine ⟨fun hc => ?_, fun hc => ?_⟩
    · replace H := H.1 ((eq_J ((congr (congrArg F4 rfl) rfl).trans (t4 q3)) rfl q4 q5).mp hc)
      obtain ⟨q6, H⟩ := H
      refine ⟨inb_J rfl q6 (by decide), ?_⟩
      refine ⟨inb_J rfl q6 (by decide), ?_⟩
      exact Ev_to (clx (cli rfl (cli (add_J rfl (rd_J (jf_base _ _) rfl q6 (by decide))) (cli (add_J rfl jl_1) rfl)))) rfl (jm_up rfl (jf_upd (jf_base _ _) rfl q6 (by decide) jl_0)) H
    · replace H := H.2 (fun hz => hc ((eq_J ((congr (congrArg F4 rfl) rfl).trans (t4 q3)) rfl q4 q5).mpr hz))
      exact Ev_to (clx (cli rfl (cli rfl (cli (add_J rfl jl_1) rfl)))) rfl rfl H
-- 20 GlassWires$Glass ripen (II)Z
theorem v20_0 {E : gw_N} {N : NM} {res : Option Value × gw_H} {x1 : Int} {x2 : Int} (H : ((0 ≤ x1 ∧ x1 < 768) ∧ ((R ((N 48) x1)) ∧ ((((N 48) x1) = 0 → ((Q99 N ((N 46) x1)) ∧ ((R (G99 N ((N 46) x1))) ∧ ((R x2) ∧ (((G99 N ((N 46) x1)) ≤ x2 → ((Q102 (upZ N 48 (updZ (N 48) x1 1)) ((N 46) x1) ((N 47) x1)) ∧ res = (some (.int (J 1)), hs E (jm (upZ (upZ N 48 (updZ (N 48) x1 1)) 47 (updZ (N 47) x1 (G102 (upZ N 48 (updZ (N 48) x1 1)) ((N 46) x1) ((N 47) x1)))))))) ∧ (¬ (G99 N ((N 46) x1)) ≤ x2 → res = (some (.int (J 0)), hs E (jm N)))))))) ∧ (¬ ((N 48) x1) = 0 → res = (some (.int (J 0)), hs E (jm N))))))) : Ev 2 20 0 [some (.ref 44), some (.int (J x1)), some (.int (J x2))] [] (hs E (jm N)) res := by
  refine w20_0 ?_
  obtain ⟨q1, H⟩ := H
  refine ⟨inb_J rfl q1 (by decide), ?_⟩
  obtain ⟨q2, H⟩ := H
  refine ⟨fun hc => ?_, fun hc => ?_⟩
  · replace H := H.1 ((eq_J (rd_J (jf_base _ _) rfl q1 (by decide)) jl_0 q2 (by decide)).mp hc)
    refine ⟨inb_J rfl q1 (by decide), ?_⟩
    obtain ⟨q3, H⟩ := H
    refine ⟨Eq.mpr (congr (congrArg P99 rfl) (rd_J (jf_base _ _) rfl q1 (by decide))) (p99 q3), ?_⟩
    obtain ⟨q4, q5, H⟩ := H
    refine ⟨fun hc => ?_, fun hc => ?_⟩
    · replace H := H.1 ((le_J ((congr (congrArg F99 rfl) (rd_J (jf_base _ _) rfl q1 (by decide))).trans (t99 q3)) rfl q4 q5).mp hc)
      refine ⟨inb_J rfl q1 (by decide), ?_⟩
      refine ⟨inb_J rfl q1 (by decide), ?_⟩
      refine ⟨inb_J rfl q1 (by decide), ?_⟩
      obtain ⟨q6, H⟩ := H
      refine ⟨Eq.mpr (congr (congr (congrArg P102 (jm_up rfl (jf_upd (jf_base _ _) rfl q1 (by decide) jl_1))) (rd_J (jf_base _ _) rfl q1 (by decide))) (rd_J (jf_base _ _) rfl q1 (by decide))) (p102 q6), ?_⟩
      refine ⟨inb_J rfl q1 (by decide), ?_⟩
      exact H.trans (rt_i jl_1 (jm_up (jm_up rfl (jf_upd (jf_base _ _) rfl q1 (by decide) jl_1)) (jf_upd (jf_base _ _) rfl q1 (by decide) ((congr (congr (congrArg F102 (jm_up rfl (jf_upd (jf_base _ _) rfl q1 (by decide) jl_1))) (rd_J (jf_base _ _) rfl q1 (by decide))) (rd_J (jf_base _ _) rfl q1 (by decide))).trans (t102 q6)))))
    · replace H := H.2 (fun hz => hc ((le_J ((congr (congrArg F99 rfl) (rd_J (jf_base _ _) rfl q1 (by decide))).trans (t99 q3)) rfl q4 q5).mpr hz))
      exact H.trans (rt_i jl_0 rfl)
  · replace H := H.2 (fun hz => hc ((eq_J (rd_J (jf_base _ _) rfl q1 (by decide)) jl_0 q2 (by decide)).mpr hz))
    exact H.trans (rt_i jl_0 rfl)
-- 24 GlassWires$Glass takeFromUpmost (II)I
theorem v24_0 {E : gw_N} {N : NM} {res : Option Value × gw_H} {x1 : Int} {x2 : Int} (H : ((Q15 N x1) ∧ ((R (G15 N x1)) ∧ (((G15 N x1) = (-1) → res = (some (.int (J 0)), hs E (jm N))) ∧ (¬ (G15 N x1) = (-1) → ((0 ≤ (G15 N x1) ∧ (G15 N x1) < 768) ∧ ((Q312 N x2 ((N 47) (G15 N x1))) ∧ ((R ((updZ (N 47) (G15 N x1) (((N 47) (G15 N x1)) - (G312 N x2 ((N 47) (G15 N x1))))) (G15 N x1))) ∧ ((((updZ (N 47) (G15 N x1) (((N 47) (G15 N x1)) - (G312 N x2 ((N 47) (G15 N x1))))) (G15 N x1)) = 0 → ((0 ≤ x1 ∧ x1 < 64) ∧ res = (some (.int (J (G312 N x2 ((N 47) (G15 N x1))))), hs E (jm (upZ (upZ N 47 (updZ (N 47) (G15 N x1) (((N 47) (G15 N x1)) - (G312 N x2 ((N 47) (G15 N x1)))))) 45 (updZ (N 45) x1 (((N 45) x1) - 1))))))) ∧ (¬ ((updZ (N 47) (G15 N x1) (((N 47) (G15 N x1)) - (G312 N x2 ((N 47) (G15 N x1))))) (G15 N x1)) = 0 → res = (some (.int (J (G312 N x2 ((N 47) (G15 N x1))))), hs E (jm (upZ N 47 (updZ (N 47) (G15 N x1) (((N 47) (G15 N x1)) - (G312 N x2 ((N 47) (G15 N x1)))))))))))))))))) : Ev 2 24 0 [some (.ref 44), some (.int (J x1)), some (.int (J x2)), none, none] [] (hs E (jm N)) res := by
  refine w24_0 ?_
  obtain ⟨q1, H⟩ := H
  refine ⟨Eq.mpr (congr (congrArg P15 rfl) rfl) (p15 q1), ?_⟩
  obtain ⟨q2, H⟩ := H
  refine ⟨fun hc => ?_, fun hc => ?_⟩
  · replace H := H.1 ((eq_J ((congr (congrArg F15 rfl) rfl).trans (t15 q1)) jl_m1 q2 (by decide)).mp hc)
    exact H.trans (rt_i jl_0 rfl)
  · replace H := H.2 (fun hz => hc ((eq_J ((congr (congrArg F15 rfl) rfl).trans (t15 q1)) jl_m1 q2 (by decide)).mpr hz))
    obtain ⟨q3, H⟩ := H
    refine ⟨inb_J ((congr (congrArg F15 rfl) rfl).trans (t15 q1)) q3 (by decide), ?_⟩
    obtain ⟨q4, H⟩ := H
    refine ⟨inb_J ((congr (congrArg F15 rfl) rfl).trans (t15 q1)) q3 (by decide), ?_⟩
    refine ⟨inb_J ((congr (congrArg F15 rfl) rfl).trans (t15 q1)) q3 (by decide), ?_⟩
    refine ⟨inb_J ((congr (congrArg F15 rfl) rfl).trans (t15 q1)) q3 (by decide), ?_⟩
    obtain ⟨q5, H⟩ := H
    refine ⟨fun hc => ?_, fun hc => ?_⟩
    · replace H := H.1 ((eq_J (rd_J (jf_upd (jf_base _ _) ((congr (congrArg F15 rfl) rfl).trans (t15 q1)) q3 (by decide) (sub_J (rd_J (jf_base _ _) ((congr (congrArg F15 rfl) rfl).trans (t15 q1)) q3 (by decide)) ((congr (congr (congrArg F312 rfl) rfl) (rd_J (jf_base _ _) ((congr (congrArg F15 rfl) rfl).trans (t15 q1)) q3 (by decide))).trans (t312 q4)))) ((congr (congrArg F15 rfl) rfl).trans (t15 q1)) q3 (by decide)) jl_0 q5 (by decide)).mp hc)
      obtain ⟨q6, H⟩ := H
      refine ⟨inb_J rfl q6 (by decide), ?_⟩
      refine ⟨inb_J rfl q6 (by decide), ?_⟩
      exact H.trans (rt_i ((congr (congr (congrArg F312 rfl) rfl) (rd_J (jf_base _ _) ((congr (congrArg F15 rfl) rfl).trans (t15 q1)) q3 (by decide))).trans (t312 q4)) (jm_up (jm_up rfl (jf_upd (jf_base _ _) ((congr (congrArg F15 rfl) rfl).trans (t15 q1)) q3 (by decide) (sub_J (rd_J (jf_base _ _) ((congr (congrArg F15 rfl) rfl).trans (t15 q1)) q3 (by decide)) ((congr (congr (congrArg F312 rfl) rfl) (rd_J (jf_base _ _) ((congr (congrArg F15 rfl) rfl).trans (t15 q1)) q3 (by decide))).trans (t312 q4))))) (jf_upd (jf_base _ _) rfl q6 (by decide) (sub_J (rd_J (jf_base _ _) rfl q6 (by decide)) jl_1))))
    · replace H := H.2 (fun hz => hc ((eq_J (rd_J (jf_upd (jf_base _ _) ((congr (congrArg F15 rfl) rfl).trans (t15 q1)) q3 (by decide) (sub_J (rd_J (jf_base _ _) ((congr (congrArg F15 rfl) rfl).trans (t15 q1)) q3 (by decide)) ((congr (congr (congrArg F312 rfl) rfl) (rd_J (jf_base _ _) ((congr (congrArg F15 rfl) rfl).trans (t15 q1)) q3 (by decide))).trans (t312 q4)))) ((congr (congrArg F15 rfl) rfl).trans (t15 q1)) q3 (by decide)) jl_0 q5 (by decide)).mpr hz))
      exact H.trans (rt_i ((congr (congr (congrArg F312 rfl) rfl) (rd_J (jf_base _ _) ((congr (congrArg F15 rfl) rfl).trans (t15 q1)) q3 (by decide))).trans (t312 q4)) (jm_up rfl (jf_upd (jf_base _ _) ((congr (congrArg F15 rfl) rfl).trans (t15 q1)) q3 (by decide) (sub_J (rd_J (jf_base _ _) ((congr (congrArg F15 rfl) rfl).trans (t15 q1)) q3 (by decide)) ((congr (congr (congrArg F312 rfl) rfl) (rd_J (jf_base _ _) ((congr (congrArg F15 rfl) rfl).trans (t15 q1)) q3 (by decide))).trans (t312 q4))))))
-- 26 GlassWires$Glass layersThatAre (I)I
theorem v26_0 {E : gw_N} {N : NM} {res : Option Value × gw_H} {x1 : Int} (H : Ev 2 26 4 [some (.ref 44), some (.int (J x1)), some (.int (J 0)), some (.int (J 0)), none] [] (hs E (jm N)) res) : Ev 2 26 0 [some (.ref 44), some (.int (J x1)), none, none, none] [] (hs E (jm N)) res := by
  refine w26_0 ?_
  exact Ev_to (clx (cli rfl (cli jl_0 (cli jl_0 (clx rfl))))) rfl rfl H
theorem v26_4 {E : gw_N} {N : NM} {res : Option Value × gw_H} {x1 : Int} {x2 : Int} {x3 : Int} (H : ((R (G40 N)) ∧ ((R x3) ∧ (((G40 N) ≤ x3 → res = (some (.int (J x2)), hs E (jm N))) ∧ (¬ (G40 N) ≤ x3 → Ev 2 26 18 [some (.ref 44), some (.int (J x1)), some (.int (J x2)), some (.int (J x3)), some (.int (J 0))] [] (hs E (jm N)) res))))) : Ev 2 26 4 [some (.ref 44), some (.int (J x1)), some (.int (J x2)), some (.int (J x3)), none] [] (hs E (jm N)) res := by
  refine w26_4 ?_
  obtain ⟨q1, q2, H⟩ := H
  refine ⟨fun hc => ?_, fun hc => ?_⟩
  · replace H := H.1 ((le_J ((congrArg F40 rfl).trans (t40)) rfl q1 q2).mp hc)
    exact H.trans (rt_i rfl rfl)
  · replace H := H.2 (fun hz => hc ((le_J ((congrArg F40 rfl).trans (t40)) rfl q1 q2).mpr hz))
    exact Ev_to (clx (cli rfl (cli rfl (cli rfl (cli jl_0 rfl))))) rfl rfl H
theorem v26_18 {E : gw_N} {N : NM} {res : Option Value × gw_H} {x1 : Int} {x2 : Int} {x3 : Int} {x4 : Int} (H : ((0 ≤ x3 ∧ x3 < 64) ∧ ((R ((N 45) x3)) ∧ ((R x4) ∧ ((((N 45) x3) ≤ x4 → Ev 2 26 4 [some (.ref 44), some (.int (J x1)), some (.int (J x2)), some (.int (J (x3 + 1))), none] [] (hs E (jm N)) res) ∧ (¬ ((N 45) x3) ≤ x4 → ((0 ≤ ((12 * x3) + x4) ∧ ((12 * x3) + x4) < 768) ∧ ((R ((N 48) ((12 * x3) + x4))) ∧ ((R x1) ∧ ((((N 48) ((12 * x3) + x4)) = x1 → ((Q206 N 1) ∧ Ev 2 26 18 [some (.ref 44), some (.int (J x1)), some (.int (J (x2 + (G206 N 1)))), some (.int (J x3)), some (.int (J (x4 + 1)))] [] (hs E (jm N)) res)) ∧ (¬ ((N 48) ((12 * x3) + x4)) = x1 → ((Q206 N 0) ∧ Ev 2 26 18 [some (.ref 44), some (.int (J x1)), some (.int (J (x2 + (G206 N 0)))), some (.int (J x3)), some (.int (J (x4 + 1)))] [] (hs E (jm N)) res)))))))))))) : Ev 2 26 18 [some (.ref 44), some (.int (J x1)), some (.int (J x2)), some (.int (J x3)), some (.int (J x4))] [] (hs E (jm N)) res := by
  refine w26_18 ?_
  obtain ⟨q1, H⟩ := H
  refine ⟨inb_J rfl q1 (by decide), ?_⟩
  obtain ⟨q2, q3, H⟩ := H
  refine ⟨fun hc => ?_, fun hc => ?_⟩
  · replace H := H.1 ((le_J (rd_J (jf_base _ _) rfl q1 (by decide)) rfl q2 q3).mp hc)
    exact Ev_to (clx (cli rfl (cli rfl (cli (add_J rfl jl_1) (clx rfl))))) rfl rfl H
  · replace H := H.2 (fun hz => hc ((le_J (rd_J (jf_base _ _) rfl q1 (by decide)) rfl q2 q3).mpr hz))
    obtain ⟨q4, H⟩ := H
    refine ⟨inb_J (add_J (mul_J jl_12 rfl) rfl) q4 (by decide), ?_⟩
    obtain ⟨q5, q6, H⟩ := H
    refine ⟨fun hc => ?_, fun hc => ?_⟩
    · replace H := H.1 ((eq_J (rd_J (jf_base _ _) (add_J (mul_J jl_12 rfl) rfl) q4 (by decide)) rfl q5 q6).mp hc)
      obtain ⟨q7, H⟩ := H
      exact Ev_to (clx (cli rfl (cli (add_J rfl ((congr (congrArg F206 rfl) jl_1).trans (t206 q7))) (cli rfl (cli (add_J rfl jl_1) rfl))))) rfl rfl H
    · replace H := H.2 (fun hz => hc ((eq_J (rd_J (jf_base _ _) (add_J (mul_J jl_12 rfl) rfl) q4 (by decide)) rfl q5 q6).mpr hz))
      obtain ⟨q8, H⟩ := H
      exact Ev_to (clx (cli rfl (cli (add_J rfl ((congr (congrArg F206 rfl) jl_0).trans (t206 q8))) (cli rfl (cli (add_J rfl jl_1) rfl))))) rfl rfl H
-- 27 GlassWires$Glass fieldsAtWall ()I
theorem v27_0 {E : gw_N} {N : NM} {res : Option Value × gw_H}  (H : Ev 2 27 4 [some (.ref 44), some (.int (J 0)), some (.int (J 0))] [] (hs E (jm N)) res) : Ev 2 27 0 [some (.ref 44), none, none] [] (hs E (jm N)) res := by
  refine w27_0 ?_
  exact Ev_to (clx (cli jl_0 (cli jl_0 rfl))) rfl rfl H
theorem v27_4 {E : gw_N} {N : NM} {res : Option Value × gw_H} {x1 : Int} {x2 : Int} (H : ((R (G40 N)) ∧ ((R x2) ∧ (((G40 N) ≤ x2 → res = (some (.int (J x1)), hs E (jm N))) ∧ (¬ (G40 N) ≤ x2 → (∃ (r1 : Int), Rn 13 [.ref 44, .int (J x2)] (hs E (jm N)) (some (.int (J r1))) (hs E (jm N)) ∧ ((Q103 N) ∧ ((R r1) ∧ ((R (G103 N)) ∧ ((r1 < (G103 N) → ((Q206 N 0) ∧ Ev 2 27 4 [some (.ref 44), some (.int (J (x1 + (G206 N 0)))), some (.int (J (x2 + 1)))] [] (hs E (jm N)) res)) ∧ (¬ r1 < (G103 N) → ((Q206 N 1) ∧ Ev 2 27 4 [some (.ref 44), some (.int (J (x1 + (G206 N 1)))), some (.int (J (x2 + 1)))] [] (hs E (jm N)) res)))))))))))) : Ev 2 27 4 [some (.ref 44), some (.int (J x1)), some (.int (J x2))] [] (hs E (jm N)) res := by
  refine w27_4 ?_
  obtain ⟨q1, q2, H⟩ := H
  refine ⟨fun hc => ?_, fun hc => ?_⟩
  · replace H := H.1 ((le_J ((congrArg F40 rfl).trans (t40)) rfl q1 q2).mp hc)
    exact H.trans (rt_i rfl rfl)
  · replace H := H.2 (fun hz => hc ((le_J ((congrArg F40 rfl).trans (t40)) rfl q1 q2).mpr hz))
    obtain ⟨r1, q8, H⟩ := H
    refine ⟨J r1, Rn_to (clx (cai rfl rfl)) rfl rfl q8, ?_⟩
    obtain ⟨q3, H⟩ := H
    refine ⟨Eq.mpr (congrArg P103 rfl) (p103 q3), ?_⟩
    obtain ⟨q4, q5, H⟩ := H
    refine ⟨fun hc => ?_, fun hc => ?_⟩
    · replace H := H.1 ((lt_J rfl ((congrArg F103 rfl).trans (t103 q3)) q4 q5).mp hc)
      obtain ⟨q6, H⟩ := H
      exact Ev_to (clx (cli (add_J rfl ((congr (congrArg F206 rfl) jl_0).trans (t206 q6))) (cli (add_J rfl jl_1) rfl))) rfl rfl H
    · replace H := H.2 (fun hz => hc ((lt_J rfl ((congrArg F103 rfl).trans (t103 q3)) q4 q5).mpr hz))
      obtain ⟨q7, H⟩ := H
      exact Ev_to (clx (cli (add_J rfl ((congr (congrArg F206 rfl) jl_1).trans (t206 q7))) (cli (add_J rfl jl_1) rfl))) rfl rfl H
-- 30 GlassWires$Glass frontPull ()I
theorem v30_0 {E : gw_N} {N : NM} {res : Option Value × gw_H}  (H : Ev 2 30 4 [some (.ref 44), some (.int (J 0)), some (.int (J 0)), none, none] [] (hs E (jm N)) res) : Ev 2 30 0 [some (.ref 44), none, none, none, none] [] (hs E (jm N)) res := by
  refine w30_0 ?_
  exact Ev_to (clx (cli jl_0 (cli jl_0 (clx (clx rfl))))) rfl rfl H
theorem v30_4 {E : gw_N} {N : NM} {res : Option Value × gw_H} {x1 : Int} {x2 : Int} (H : ((R (G40 N)) ∧ ((R x2) ∧ (((G40 N) ≤ x2 → res = (some (.int (J x1)), hs E (jm N))) ∧ (¬ (G40 N) ≤ x2 → Ev 2 30 17 [some (.ref 44), some (.int (J x1)), some (.int (J x2)), some (.int (J 0)), none] [] (hs E (jm N)) res))))) : Ev 2 30 4 [some (.ref 44), some (.int (J x1)), some (.int (J x2)), none, none] [] (hs E (jm N)) res := by
  refine w30_4 ?_
  obtain ⟨q1, q2, H⟩ := H
  refine ⟨fun hc => ?_, fun hc => ?_⟩
  · replace H := H.1 ((le_J ((congrArg F40 rfl).trans (t40)) rfl q1 q2).mp hc)
    exact H.trans (rt_i rfl rfl)
  · replace H := H.2 (fun hz => hc ((le_J ((congrArg F40 rfl).trans (t40)) rfl q1 q2).mpr hz))
    exact Ev_to (clx (cli rfl (cli rfl (cli jl_0 (clx rfl))))) rfl rfl H
theorem v30_17 {E : gw_N} {N : NM} {res : Option Value × gw_H} {x1 : Int} {x2 : Int} {x3 : Int} (H : ((0 ≤ x2 ∧ x2 < 64) ∧ ((R ((N 45) x2)) ∧ ((R x3) ∧ ((((N 45) x2) ≤ x3 → Ev 2 30 4 [some (.ref 44), some (.int (J x1)), some (.int (J (x2 + 1))), none, none] [] (hs E (jm N)) res) ∧ (¬ ((N 45) x2) ≤ x3 → ((0 ≤ ((12 * x2) + x3) ∧ ((12 * x2) + x3) < 768) ∧ ((R ((N 48) ((12 * x2) + x3))) ∧ ((((N 48) ((12 * x2) + x3)) = 0 → Ev 2 30 17 [some (.ref 44), some (.int (J x1)), some (.int (J x2)), some (.int (J (x3 + 1))), none] [] (hs E (jm N)) res) ∧ (¬ ((N 48) ((12 * x2) + x3)) = 0 → ((Q101 N ((N 46) ((12 * x2) + x3))) ∧ Ev 2 30 17 [some (.ref 44), some (.int (J (x1 + (((N 47) ((12 * x2) + x3)) * (G101 N ((N 46) ((12 * x2) + x3))))))), some (.int (J x2)), some (.int (J (x3 + 1))), none] [] (hs E (jm N)) res))))))))))) : Ev 2 30 17 [some (.ref 44), some (.int (J x1)), some (.int (J x2)), some (.int (J x3)), none] [] (hs E (jm N)) res := by
  refine w30_17 ?_
  obtain ⟨q1, H⟩ := H
  refine ⟨inb_J rfl q1 (by decide), ?_⟩
  obtain ⟨q2, q3, H⟩ := H
  refine ⟨fun hc => ?_, fun hc => ?_⟩
  · replace H := H.1 ((le_J (rd_J (jf_base _ _) rfl q1 (by decide)) rfl q2 q3).mp hc)
    exact Ev_to (clx (cli rfl (cli (add_J rfl jl_1) (clx (clx rfl))))) rfl rfl H
  · replace H := H.2 (fun hz => hc ((le_J (rd_J (jf_base _ _) rfl q1 (by decide)) rfl q2 q3).mpr hz))
    obtain ⟨q4, H⟩ := H
    refine ⟨inb_J (add_J (mul_J jl_12 rfl) rfl) q4 (by decide), ?_⟩
    obtain ⟨q5, H⟩ := H
    refine ⟨fun hc => ?_, fun hc => ?_⟩
    · replace H := H.1 ((eq_J (rd_J (jf_base _ _) (add_J (mul_J jl_12 rfl) rfl) q4 (by decide)) jl_0 q5 (by decide)).mp hc)
      exact Ev_to (clx (cli rfl (cli rfl (cli (add_J rfl jl_1) (clx rfl))))) rfl rfl H
    · replace H := H.2 (fun hz => hc ((eq_J (rd_J (jf_base _ _) (add_J (mul_J jl_12 rfl) rfl) q4 (by decide)) jl_0 q5 (by decide)).mpr hz))
      refine ⟨inb_J (add_J (mul_J jl_12 rfl) rfl) q4 (by decide), ?_⟩
      refine ⟨inb_J (add_J (mul_J jl_12 rfl) rfl) q4 (by decide), ?_⟩
      obtain ⟨q6, H⟩ := H
      refine ⟨Eq.mpr (congr (congrArg P101 rfl) (rd_J (jf_base _ _) (add_J (mul_J jl_12 rfl) rfl) q4 (by decide))) (p101 q6), ?_⟩
      exact Ev_to (clx (cli (add_J rfl (mul_J (rd_J (jf_base _ _) (add_J (mul_J jl_12 rfl) rfl) q4 (by decide)) ((congr (congrArg F101 rfl) (rd_J (jf_base _ _) (add_J (mul_J jl_12 rfl) rfl) q4 (by decide))).trans (t101 q6)))) (cli rfl (cli (add_J rfl jl_1) (clx rfl))))) rfl rfl H
-- 34 GlassWires$Glass digestLayersOn (J)J
theorem v34_0 {E : gw_N} {N : NM} {res : Option Value × gw_H} {x1 : Int64} (H : Ev 2 34 5 [some (.ref 44), none, none, some (.long x1), none, some (.int (J 0)), none, none] [] (hs E (jm N)) res) : Ev 2 34 0 [some (.ref 44), some (.long x1), none, none, none, none, none, none] [] (hs E (jm N)) res := by
  refine w34_0 ?_
  exact Ev_to (clx (clx (clx (cll rfl (clx (cli jl_0 (clx (clx rfl)))))))) rfl rfl H
theorem v34_5 {E : gw_N} {N : NM} {res : Option Value × gw_H} {x3 : Int64} {x5 : Int} (H : ((R (G40 N)) ∧ ((R x5) ∧ (((G40 N) ≤ x5 → res = (some (.long x3), hs E (jm N))) ∧ (¬ (G40 N) ≤ x5 → Ev 2 34 20 [some (.ref 44), none, none, some (.long x3), none, some (.int (J x5)), some (.int (J 0)), none] [] (hs E (jm N)) res))))) : Ev 2 34 5 [some (.ref 44), none, none, some (.long x3), none, some (.int (J x5)), none, none] [] (hs E (jm N)) res := by
  refine w34_5 ?_
  obtain ⟨q1, q2, H⟩ := H
  refine ⟨fun hc => ?_, fun hc => ?_⟩
  · replace H := H.1 ((le_J ((congrArg F40 rfl).trans (t40)) rfl q1 q2).mp hc)
    exact H.trans (rt_l rfl rfl)
  · replace H := H.2 (fun hz => hc ((le_J ((congrArg F40 rfl).trans (t40)) rfl q1 q2).mpr hz))
    exact Ev_to (clx (clx (clx (cll rfl (clx (cli rfl (cli jl_0 (clx rfl)))))))) rfl rfl H
theorem v34_20 {E : gw_N} {N : NM} {res : Option Value × gw_H} {x3 : Int64} {x5 : Int} {x6 : Int} (H : ((0 ≤ x5 ∧ x5 < 64) ∧ ((R ((N 45) x5)) ∧ ((R x6) ∧ ((((N 45) x5) ≤ x6 → Ev 2 34 5 [some (.ref 44), none, none, some (.long x3), none, some (.int (J (x5 + 1))), none, none] [] (hs E (jm N)) res) ∧ (¬ ((N 45) x5) ≤ x6 → ((0 ≤ ((12 * x5) + x6) ∧ ((12 * x5) + x6) < 768) ∧ Ev 2 34 20 [some (.ref 44), none, none, some (.long (G207 N (G207 N (G207 N x3 (Int32.toInt64 (J ((N 46) ((12 * x5) + x6))))) (Int32.toInt64 (J ((N 47) ((12 * x5) + x6))))) (Int32.toInt64 (J ((N 48) ((12 * x5) + x6)))))), none, some (.int (J x5)), some (.int (J (x6 + 1))), none] [] (hs E (jm N)) res))))))) : Ev 2 34 20 [some (.ref 44), none, none, some (.long x3), none, some (.int (J x5)), some (.int (J x6)), none] [] (hs E (jm N)) res := by
  refine w34_20 ?_
  obtain ⟨q1, H⟩ := H
  refine ⟨inb_J rfl q1 (by decide), ?_⟩
  obtain ⟨q2, q3, H⟩ := H
  refine ⟨fun hc => ?_, fun hc => ?_⟩
  · replace H := H.1 ((le_J (rd_J (jf_base _ _) rfl q1 (by decide)) rfl q2 q3).mp hc)
    exact Ev_to (clx (clx (clx (cll rfl (clx (cli (add_J rfl jl_1) (clx (clx rfl)))))))) rfl rfl H
  · replace H := H.2 (fun hz => hc ((le_J (rd_J (jf_base _ _) rfl q1 (by decide)) rfl q2 q3).mpr hz))
    obtain ⟨q4, H⟩ := H
    refine ⟨inb_J (add_J (mul_J jl_12 rfl) rfl) q4 (by decide), ?_⟩
    refine ⟨inb_J (add_J (mul_J jl_12 rfl) rfl) q4 (by decide), ?_⟩
    refine ⟨inb_J (add_J (mul_J jl_12 rfl) rfl) q4 (by decide), ?_⟩
    exact Ev_to (clx (clx (clx (cll ((congr (congr (congrArg F207 rfl) ((congr (congr (congrArg F207 rfl) ((congr (congr (congrArg F207 rfl) rfl) (congrArg Int32.toInt64 (rd_J (jf_base _ _) (add_J (mul_J jl_12 rfl) rfl) q4 (by decide)))).trans (t207))) (congrArg Int32.toInt64 (rd_J (jf_base _ _) (add_J (mul_J jl_12 rfl) rfl) q4 (by decide)))).trans (t207))) (congrArg Int32.toInt64 (rd_J (jf_base _ _) (add_J (mul_J jl_12 rfl) rfl) q4 (by decide)))).trans (t207)) (clx (cli rfl (cli (add_J rfl jl_1) (clx rfl)))))))) rfl rfl H
-- 44 GlassWires$Grid hasEdge (III)Z
theorem v44_0 {E : gw_N} {N : NM} {res : Option Value × gw_H} {x1 : Int} {x2 : Int} {x3 : Int} (H : ((R x3) ∧ ((x3 = 0 → ((Q41 N x1 x2) ∧ ((R (G41 N x1 x2)) ∧ (((G41 N x1 x2) = 0 → res = (some (.int (J 0)), hs E (jm N))) ∧ (¬ (G41 N x1 x2) = 0 → ((Q53 N x3) ∧ ((Q54 N x3) ∧ ((Q41 N (x1 + (G53 N x3)) (x2 + (G54 N x3))) ∧ ((R (G41 N (x1 + (G53 N x3)) (x2 + (G54 N x3)))) ∧ (((G41 N (x1 + (G53 N x3)) (x2 + (G54 N x3))) = 0 → res = (some (.int (J 0)), hs E (jm N))) ∧ (¬ (G41 N (x1 + (G53 N x3)) (x2 + (G54 N x3))) = 0 → res = (some (.int (J 1)), hs E (jm N))))))))))))) ∧ (¬ x3 = 0 → ((x3 = 1 → ((Q41 N x1 x2) ∧ ((R (G41 N x1 x2)) ∧ (((G41 N x1 x2) = 0 → res = (some (.int (J 0)), hs E (jm N))) ∧ (¬ (G41 N x1 x2) = 0 → ((Q53 N x3) ∧ ((Q54 N x3) ∧ ((Q41 N (x1 + (G53 N x3)) (x2 + (G54 N x3))) ∧ ((R (G41 N (x1 + (G53 N x3)) (x2 + (G54 N x3)))) ∧ (((G41 N (x1 + (G53 N x3)) (x2 + (G54 N x3))) = 0 → res = (some (.int (J 0)), hs E (jm N))) ∧ (¬ (G41 N (x1 + (G53 N x3)) (x2 + (G54 N x3))) = 0 → res = (some (.int (J 1)), hs E (jm N))))))))))))) ∧ (¬ x3 = 1 → res = (some (.int (J 0)), hs E (jm N)))))))) : Ev 2 44 0 [some (.ref 9), some (.int (J x1)), some (.int (J x2)), some (.int (J x3))] [] (hs E (jm N)) res := by
  refine w44_0 ?_
  obtain ⟨q1, H⟩ := H
  refine ⟨fun hc => ?_, fun hc => ?_⟩
  · replace H := H.1 ((eq_J rfl jl_0 q1 (by decide)).mp hc)
    obtain ⟨q2, H⟩ := H
    obtain ⟨q3, H⟩ := H
    refine ⟨fun hc => ?_, fun hc => ?_⟩
    · replace H := H.1 ((eq_J ((congr (congr (congrArg F41 rfl) rfl) rfl).trans (t41 q2)) jl_0 q3 (by decide)).mp hc)
      exact H.trans (rt_i jl_0 rfl)
    · replace H := H.2 (fun hz => hc ((eq_J ((congr (congr (congrArg F41 rfl) rfl) rfl).trans (t41 q2)) jl_0 q3 (by decide)).mpr hz))
      obtain ⟨q4, H⟩ := H
      obtain ⟨q5, H⟩ := H
      obtain ⟨q6, H⟩ := H
      obtain ⟨q7, H⟩ := H
      refine ⟨fun hc => ?_, fun hc => ?_⟩
      · replace H := H.1 ((eq_J ((congr (congr (congrArg F41 rfl) (add_J rfl ((congr (congrArg F53 rfl) rfl).trans (t53 q4)))) (add_J rfl ((congr (congrArg F54 rfl) rfl).trans (t54 q5)))).trans (t41 q6)) jl_0 q7 (by decide)).mp hc)
        exact H.trans (rt_i jl_0 rfl)
      · replace H := H.2 (fun hz => hc ((eq_J ((congr (congr (congrArg F41 rfl) (add_J rfl ((congr (congrArg F53 rfl) rfl).trans (t53 q4)))) (add_J rfl ((congr (congrArg F54 rfl) rfl).trans (t54 q5)))).trans (t41 q6)) jl_0 q7 (by decide)).mpr hz))
        exact H.trans (rt_i jl_1 rfl)
  · replace H := H.2 (fun hz => hc ((eq_J rfl jl_0 q1 (by decide)).mpr hz))
    refine ⟨fun hc => ?_, fun hc => ?_⟩
    · replace H := H.1 ((eq_J rfl jl_1 q1 (by decide)).mp hc)
      obtain ⟨q8, H⟩ := H
      obtain ⟨q9, H⟩ := H
      refine ⟨fun hc => ?_, fun hc => ?_⟩
      · replace H := H.1 ((eq_J ((congr (congr (congrArg F41 rfl) rfl) rfl).trans (t41 q8)) jl_0 q9 (by decide)).mp hc)
        exact H.trans (rt_i jl_0 rfl)
      · replace H := H.2 (fun hz => hc ((eq_J ((congr (congr (congrArg F41 rfl) rfl) rfl).trans (t41 q8)) jl_0 q9 (by decide)).mpr hz))
        obtain ⟨q10, H⟩ := H
        obtain ⟨q11, H⟩ := H
        obtain ⟨q12, H⟩ := H
        obtain ⟨q13, H⟩ := H
        refine ⟨fun hc => ?_, fun hc => ?_⟩
        · replace H := H.1 ((eq_J ((congr (congr (congrArg F41 rfl) (add_J rfl ((congr (congrArg F53 rfl) rfl).trans (t53 q10)))) (add_J rfl ((congr (congrArg F54 rfl) rfl).trans (t54 q11)))).trans (t41 q12)) jl_0 q13 (by decide)).mp hc)
          exact H.trans (rt_i jl_0 rfl)
        · replace H := H.2 (fun hz => hc ((eq_J ((congr (congr (congrArg F41 rfl) (add_J rfl ((congr (congrArg F53 rfl) rfl).trans (t53 q10)))) (add_J rfl ((congr (congrArg F54 rfl) rfl).trans (t54 q11)))).trans (t41 q12)) jl_0 q13 (by decide)).mpr hz))
          exact H.trans (rt_i jl_1 rfl)
    · replace H := H.2 (fun hz => hc ((eq_J rfl jl_1 q1 (by decide)).mpr hz))
      exact H.trans (rt_i jl_0 rfl)
def G44 (N : NM) (x1 : Int) (x2 : Int) (x3 : Int) : Int := (if x3 = 0 then (if (G41 N x1 x2) = 0 then 0 else (if (G41 N (x1 + (G53 N x3)) (x2 + (G54 N x3))) = 0 then 0 else 1)) else (if x3 = 1 then (if (G41 N x1 x2) = 0 then 0 else (if (G41 N (x1 + (G53 N x3)) (x2 + (G54 N x3))) = 0 then 0 else 1)) else 0))
def Q44 (N : NM) (x1 : Int) (x2 : Int) (x3 : Int) : Prop := ((R x3) ∧ ((x3 = 0 → ((Q41 N x1 x2) ∧ ((R (G41 N x1 x2)) ∧ (((G41 N x1 x2) = 0 → True) ∧ (¬ (G41 N x1 x2) = 0 → ((Q53 N x3) ∧ ((Q54 N x3) ∧ ((Q41 N (x1 + (G53 N x3)) (x2 + (G54 N x3))) ∧ ((R (G41 N (x1 + (G53 N x3)) (x2 + (G54 N x3)))) ∧ (((G41 N (x1 + (G53 N x3)) (x2 + (G54 N x3))) = 0 → True) ∧ (¬ (G41 N (x1 + (G53 N x3)) (x2 + (G54 N x3))) = 0 → True))))))))))) ∧ (¬ x3 = 0 → ((x3 = 1 → ((Q41 N x1 x2) ∧ ((R (G41 N x1 x2)) ∧ (((G41 N x1 x2) = 0 → True) ∧ (¬ (G41 N x1 x2) = 0 → ((Q53 N x3) ∧ ((Q54 N x3) ∧ ((Q41 N (x1 + (G53 N x3)) (x2 + (G54 N x3))) ∧ ((R (G41 N (x1 + (G53 N x3)) (x2 + (G54 N x3)))) ∧ (((G41 N (x1 + (G53 N x3)) (x2 + (G54 N x3))) = 0 → True) ∧ (¬ (G41 N (x1 + (G53 N x3)) (x2 + (G54 N x3))) = 0 → True))))))))))) ∧ (¬ x3 = 1 → True)))))
theorem t44 {N : NM} {x1 : Int} {x2 : Int} {x3 : Int} (H : Q44 N x1 x2 x3) : F44 (jm N) (J x1) (J x2) (J x3) = J (G44 N x1 x2 x3) := by
  unfold Q44 at H
  unfold F44 G44
  obtain ⟨q1, H⟩ := H
  refine ite_J (eq_J rfl jl_0 q1 (by decide)) (fun hc => ?_) (fun hc => ?_)
  · replace H := H.1 ((eq_J rfl jl_0 q1 (by decide)).mp hc)
    obtain ⟨q2, H⟩ := H
    obtain ⟨q3, H⟩ := H
    refine ite_J (eq_J ((congr (congr (congrArg F41 rfl) rfl) rfl).trans (t41 q2)) jl_0 q3 (by decide)) (fun hc => ?_) (fun hc => ?_)
    · replace H := H.1 ((eq_J ((congr (congr (congrArg F41 rfl) rfl) rfl).trans (t41 q2)) jl_0 q3 (by decide)).mp hc)
      exact jl_0
    · replace H := H.2 (fun hz => hc ((eq_J ((congr (congr (congrArg F41 rfl) rfl) rfl).trans (t41 q2)) jl_0 q3 (by decide)).mpr hz))
      obtain ⟨q4, H⟩ := H
      obtain ⟨q5, H⟩ := H
      obtain ⟨q6, H⟩ := H
      obtain ⟨q7, H⟩ := H
      refine ite_J (eq_J ((congr (congr (congrArg F41 rfl) (add_J rfl ((congr (congrArg F53 rfl) rfl).trans (t53 q4)))) (add_J rfl ((congr (congrArg F54 rfl) rfl).trans (t54 q5)))).trans (t41 q6)) jl_0 q7 (by decide)) (fun hc => ?_) (fun hc => ?_)
      · replace H := H.1 ((eq_J ((congr (congr (congrArg F41 rfl) (add_J rfl ((congr (congrArg F53 rfl) rfl).trans (t53 q4)))) (add_J rfl ((congr (congrArg F54 rfl) rfl).trans (t54 q5)))).trans (t41 q6)) jl_0 q7 (by decide)).mp hc)
        exact jl_0
      · replace H := H.2 (fun hz => hc ((eq_J ((congr (congr (congrArg F41 rfl) (add_J rfl ((congr (congrArg F53 rfl) rfl).trans (t53 q4)))) (add_J rfl ((congr (congrArg F54 rfl) rfl).trans (t54 q5)))).trans (t41 q6)) jl_0 q7 (by decide)).mpr hz))
        exact jl_1
  · replace H := H.2 (fun hz => hc ((eq_J rfl jl_0 q1 (by decide)).mpr hz))
    refine ite_J (eq_J rfl jl_1 q1 (by decide)) (fun hc => ?_) (fun hc => ?_)
    · replace H := H.1 ((eq_J rfl jl_1 q1 (by decide)).mp hc)
      obtain ⟨q8, H⟩ := H
      obtain ⟨q9, H⟩ := H
      refine ite_J (eq_J ((congr (congr (congrArg F41 rfl) rfl) rfl).trans (t41 q8)) jl_0 q9 (by decide)) (fun hc => ?_) (fun hc => ?_)
      · replace H := H.1 ((eq_J ((congr (congr (congrArg F41 rfl) rfl) rfl).trans (t41 q8)) jl_0 q9 (by decide)).mp hc)
        exact jl_0
      · replace H := H.2 (fun hz => hc ((eq_J ((congr (congr (congrArg F41 rfl) rfl) rfl).trans (t41 q8)) jl_0 q9 (by decide)).mpr hz))
        obtain ⟨q10, H⟩ := H
        obtain ⟨q11, H⟩ := H
        obtain ⟨q12, H⟩ := H
        obtain ⟨q13, H⟩ := H
        refine ite_J (eq_J ((congr (congr (congrArg F41 rfl) (add_J rfl ((congr (congrArg F53 rfl) rfl).trans (t53 q10)))) (add_J rfl ((congr (congrArg F54 rfl) rfl).trans (t54 q11)))).trans (t41 q12)) jl_0 q13 (by decide)) (fun hc => ?_) (fun hc => ?_)
        · replace H := H.1 ((eq_J ((congr (congr (congrArg F41 rfl) (add_J rfl ((congr (congrArg F53 rfl) rfl).trans (t53 q10)))) (add_J rfl ((congr (congrArg F54 rfl) rfl).trans (t54 q11)))).trans (t41 q12)) jl_0 q13 (by decide)).mp hc)
          exact jl_0
        · replace H := H.2 (fun hz => hc ((eq_J ((congr (congr (congrArg F41 rfl) (add_J rfl ((congr (congrArg F53 rfl) rfl).trans (t53 q10)))) (add_J rfl ((congr (congrArg F54 rfl) rfl).trans (t54 q11)))).trans (t41 q12)) jl_0 q13 (by decide)).mpr hz))
          exact jl_1
    · replace H := H.2 (fun hz => hc ((eq_J rfl jl_1 q1 (by decide)).mpr hz))
      exact jl_0
theorem sz44 {E : gw_N} {N : NM} {x1 : Int} {x2 : Int} {x3 : Int} (H : Q44 N x1 x2 x3) : Rn 44 [.ref 9, .int (J x1), .int (J x2), .int (J x3)] (hs E (jm N)) (some (.int (J (G44 N x1 x2 x3)))) (hs E (jm N)) := by
  have h := s44 (E := E) (M := jm N) (x1 := J x1) (x2 := J x2) (x3 := J x3)
  rw [t44 H] at h
  exact h
-- 46 GlassWires$Grid beside (II)I
theorem v46_0 {E : gw_N} {N : NM} {res : Option Value × gw_H} {x1 : Int} {x2 : Int} (H : ((0 ≤ x1 ∧ x1 < 64) ∧ ((Q53 N x2) ∧ ((Q54 N x2) ∧ ((Q43 N (((N 10) x1) + (G53 N x2)) (((N 11) x1) + (G54 N x2))) ∧ ((R (G43 N (((N 10) x1) + (G53 N x2)) (((N 11) x1) + (G54 N x2)))) ∧ (((G43 N (((N 10) x1) + (G53 N x2)) (((N 11) x1) + (G54 N x2))) = 0 → res = (some (.int (J (-1))), hs E (jm N))) ∧ (¬ (G43 N (((N 10) x1) + (G53 N x2)) (((N 11) x1) + (G54 N x2))) = 0 → res = (some (.int (J (G45 N (((N 10) x1) + (G53 N x2)) (((N 11) x1) + (G54 N x2))))), hs E (jm N)))))))))) : Ev 2 46 0 [some (.ref 9), some (.int (J x1)), some (.int (J x2)), none, none] [] (hs E (jm N)) res := by
  refine w46_0 ?_
  obtain ⟨q1, H⟩ := H
  refine ⟨inb_J rfl q1 (by decide), ?_⟩
  obtain ⟨q2, H⟩ := H
  refine ⟨inb_J rfl q1 (by decide), ?_⟩
  obtain ⟨q3, H⟩ := H
  obtain ⟨q4, H⟩ := H
  obtain ⟨q5, H⟩ := H
  refine ⟨fun hc => ?_, fun hc => ?_⟩
  · replace H := H.1 ((eq_J ((congr (congr (congrArg F43 rfl) (add_J (rd_J (jf_base _ _) rfl q1 (by decide)) ((congr (congrArg F53 rfl) rfl).trans (t53 q2)))) (add_J (rd_J (jf_base _ _) rfl q1 (by decide)) ((congr (congrArg F54 rfl) rfl).trans (t54 q3)))).trans (t43 q4)) jl_0 q5 (by decide)).mp hc)
    exact H.trans (rt_i jl_m1 rfl)
  · replace H := H.2 (fun hz => hc ((eq_J ((congr (congr (congrArg F43 rfl) (add_J (rd_J (jf_base _ _) rfl q1 (by decide)) ((congr (congrArg F53 rfl) rfl).trans (t53 q2)))) (add_J (rd_J (jf_base _ _) rfl q1 (by decide)) ((congr (congrArg F54 rfl) rfl).trans (t54 q3)))).trans (t43 q4)) jl_0 q5 (by decide)).mpr hz))
    exact H.trans (rt_i ((congr (congr (congrArg F45 rfl) (add_J (rd_J (jf_base _ _) rfl q1 (by decide)) ((congr (congrArg F53 rfl) rfl).trans (t53 q2)))) (add_J (rd_J (jf_base _ _) rfl q1 (by decide)) ((congr (congrArg F54 rfl) rfl).trans (t54 q3)))).trans (t45)) rfl)
def G46 (N : NM) (x1 : Int) (x2 : Int) : Int := (if (G43 N (((N 10) x1) + (G53 N x2)) (((N 11) x1) + (G54 N x2))) = 0 then (-1) else (G45 N (((N 10) x1) + (G53 N x2)) (((N 11) x1) + (G54 N x2))))
def Q46 (N : NM) (x1 : Int) (x2 : Int) : Prop := ((0 ≤ x1 ∧ x1 < 64) ∧ ((Q53 N x2) ∧ ((Q54 N x2) ∧ ((Q43 N (((N 10) x1) + (G53 N x2)) (((N 11) x1) + (G54 N x2))) ∧ ((R (G43 N (((N 10) x1) + (G53 N x2)) (((N 11) x1) + (G54 N x2)))) ∧ (((G43 N (((N 10) x1) + (G53 N x2)) (((N 11) x1) + (G54 N x2))) = 0 → True) ∧ (¬ (G43 N (((N 10) x1) + (G53 N x2)) (((N 11) x1) + (G54 N x2))) = 0 → True)))))))
theorem t46 {N : NM} {x1 : Int} {x2 : Int} (H : Q46 N x1 x2) : F46 (jm N) (J x1) (J x2) = J (G46 N x1 x2) := by
  unfold Q46 at H
  unfold F46 G46
  obtain ⟨q1, H⟩ := H
  obtain ⟨q2, H⟩ := H
  obtain ⟨q3, H⟩ := H
  obtain ⟨q4, H⟩ := H
  obtain ⟨q5, H⟩ := H
  refine ite_J (eq_J ((congr (congr (congrArg F43 rfl) (add_J (rd_J (jf_base _ _) rfl q1 (by decide)) ((congr (congrArg F53 rfl) rfl).trans (t53 q2)))) (add_J (rd_J (jf_base _ _) rfl q1 (by decide)) ((congr (congrArg F54 rfl) rfl).trans (t54 q3)))).trans (t43 q4)) jl_0 q5 (by decide)) (fun hc => ?_) (fun hc => ?_)
  · replace H := H.1 ((eq_J ((congr (congr (congrArg F43 rfl) (add_J (rd_J (jf_base _ _) rfl q1 (by decide)) ((congr (congrArg F53 rfl) rfl).trans (t53 q2)))) (add_J (rd_J (jf_base _ _) rfl q1 (by decide)) ((congr (congrArg F54 rfl) rfl).trans (t54 q3)))).trans (t43 q4)) jl_0 q5 (by decide)).mp hc)
    exact jl_m1
  · replace H := H.2 (fun hz => hc ((eq_J ((congr (congr (congrArg F43 rfl) (add_J (rd_J (jf_base _ _) rfl q1 (by decide)) ((congr (congrArg F53 rfl) rfl).trans (t53 q2)))) (add_J (rd_J (jf_base _ _) rfl q1 (by decide)) ((congr (congrArg F54 rfl) rfl).trans (t54 q3)))).trans (t43 q4)) jl_0 q5 (by decide)).mpr hz))
    exact ((congr (congr (congrArg F45 rfl) (add_J (rd_J (jf_base _ _) rfl q1 (by decide)) ((congr (congrArg F53 rfl) rfl).trans (t53 q2)))) (add_J (rd_J (jf_base _ _) rfl q1 (by decide)) ((congr (congrArg F54 rfl) rfl).trans (t54 q3)))).trans (t45))
theorem p46 {N : NM} {x1 : Int} {x2 : Int} (H : Q46 N x1 x2) : P46 (jm N) (J x1) (J x2) := by
  unfold Q46 at H
  unfold P46
  obtain ⟨q1, H⟩ := H
  refine ⟨inb_J rfl q1 (by decide), ?_⟩
  obtain ⟨q2, H⟩ := H
  exact inb_J rfl q1 (by decide)
theorem sz46 {E : gw_N} {N : NM} {x1 : Int} {x2 : Int} (H : Q46 N x1 x2) : Rn 46 [.ref 9, .int (J x1), .int (J x2)] (hs E (jm N)) (some (.int (J (G46 N x1 x2)))) (hs E (jm N)) := by
  have h := s46 (E := E) (M := jm N) (x1 := J x1) (x2 := J x2) (p46 H)
  rw [t46 H] at h
  exact h
-- 51 GlassWires$Grid edgeNumber (III)I
theorem v51_0 {E : gw_N} {N : NM} {res : Option Value × gw_H} {x0 : Int} {x1 : Int} {x2 : Int} (H : res = (some (.int (J ((89 * x2) + (G48 N x0 x1)))), hs E (jm N))) : Ev 2 51 0 [some (.int (J x0)), some (.int (J x1)), some (.int (J x2))] [] (hs E (jm N)) res := by
  refine w51_0 ?_
  exact H.trans (rt_i (add_J (mul_J jl_89 rfl) ((congr (congr (congrArg F48 rfl) rfl) rfl).trans (t48))) rfl)
def G51 (N : NM) (x0 : Int) (x1 : Int) (x2 : Int) : Int := ((89 * x2) + (G48 N x0 x1))
theorem t51 {N : NM} {x0 : Int} {x1 : Int} {x2 : Int} : F51 (jm N) (J x0) (J x1) (J x2) = J (G51 N x0 x1 x2) := by
  have H : True := trivial
  unfold F51 G51
  exact (add_J (mul_J jl_89 rfl) ((congr (congr (congrArg F48 rfl) rfl) rfl).trans (t48)))
theorem sz51 {E : gw_N} {N : NM} {x0 : Int} {x1 : Int} {x2 : Int} : Rn 51 [.int (J x0), .int (J x1), .int (J x2)] (hs E (jm N)) (some (.int (J (G51 N x0 x1 x2)))) (hs E (jm N)) := by
  have h := s51 (E := E) (M := jm N) (x0 := J x0) (x1 := J x1) (x2 := J x2)
  rw [t51] at h
  exact h
-- 55 GlassWires$Grid digestOn (J)J
theorem v55_0 {E : gw_N} {N : NM} {res : Option Value × gw_H} {x1 : Int64} (H : res = (some (.long (G207 N (G207 N x1 (Int32.toInt64 (J ((N 9) 2)))) (Int32.toInt64 (J ((N 9) 3))))), hs E (jm N))) : Ev 2 55 0 [some (.ref 9), some (.long x1), none] [] (hs E (jm N)) res := by
  refine w55_0 ?_
  exact H.trans (rt_l ((congr (congr (congrArg F207 rfl) ((congr (congr (congrArg F207 rfl) rfl) (congrArg Int32.toInt64 (fld_J (jf_base _ _)))).trans (t207))) (congrArg Int32.toInt64 (fld_J (jf_base _ _)))).trans (t207)) rfl)
def G55 (N : NM) (x1 : Int64) : Int64 := (G207 N (G207 N x1 (Int32.toInt64 (J ((N 9) 2)))) (Int32.toInt64 (J ((N 9) 3))))
theorem t55 {N : NM} {x1 : Int64} : F55 (jm N) x1 = G55 N x1 := by
  have H : True := trivial
  unfold F55 G55
  exact ((congr (congr (congrArg F207 rfl) ((congr (congr (congrArg F207 rfl) rfl) (congrArg Int32.toInt64 (fld_J (jf_base _ _)))).trans (t207))) (congrArg Int32.toInt64 (fld_J (jf_base _ _)))).trans (t207))
theorem sz55 {E : gw_N} {N : NM} {x1 : Int64} : Rn 55 [.ref 9, .long x1] (hs E (jm N)) (some (.long (G55 N x1))) (hs E (jm N)) := by
  have h := s55 (E := E) (M := jm N) (x1 := x1)
  rw [t55] at h
  exact h
-- 60 GlassWires$Net goAlong (II)V
theorem v60_0 {E : gw_N} {N : NM} {res : Option Value × gw_H} {x1 : Int} {x2 : Int} (H : ((0 ≤ x2 ∧ x2 < 178) ∧ ((R ((N 26) x2)) ∧ ((R x1) ∧ ((((N 26) x2) = x1 → res = (none, hs E (jm N))) ∧ (¬ ((N 26) x2) = x1 → ((Q147 (upZ (upZ N 26 (updZ (N 26) x2 x1)) 23 (updZ (N 23) x2 (((N 23) x2) + 1))) x1) ∧ ((Q206 (upZ (upZ N 26 (updZ (N 26) x2 x1)) 23 (updZ (N 23) x2 (((N 23) x2) + 1))) (G147 (upZ (upZ N 26 (updZ (N 26) x2 x1)) 23 (updZ (N 23) x2 (((N 23) x2) + 1))) x1)) ∧ res = (none, hs E (jm (upZ (upZ (upZ N 26 (updZ (N 26) x2 x1)) 23 (updZ (N 23) x2 (((N 23) x2) + 1))) 24 (updZ (N 24) x2 (((N 24) x2) + (G206 (upZ (upZ N 26 (updZ (N 26) x2 x1)) 23 (updZ (N 23) x2 (((N 23) x2) + 1))) (G147 (upZ (upZ N 26 (updZ (N 26) x2 x1)) 23 (updZ (N 23) x2 (((N 23) x2) + 1))) x1))))))))))))))) : Ev 2 60 0 [some (.ref 22), some (.int (J x1)), some (.int (J x2))] [] (hs E (jm N)) res := by
  refine w60_0 ?_
  obtain ⟨q1, H⟩ := H
  refine ⟨inb_J rfl q1 (by decide), ?_⟩
  obtain ⟨q2, q3, H⟩ := H
  refine ⟨fun hc => ?_, fun hc => ?_⟩
  · replace H := H.1 ((eq_J (rd_J (jf_base _ _) rfl q1 (by decide)) rfl q2 q3).mp hc)
    exact H.trans (rt_n rfl)
  · replace H := H.2 (fun hz => hc ((eq_J (rd_J (jf_base _ _) rfl q1 (by decide)) rfl q2 q3).mpr hz))
    refine ⟨inb_J rfl q1 (by decide), ?_⟩
    refine ⟨inb_J rfl q1 (by decide), ?_⟩
    refine ⟨inb_J rfl q1 (by decide), ?_⟩
    refine ⟨inb_J rfl q1 (by decide), ?_⟩
    obtain ⟨q4, H⟩ := H
    refine ⟨Eq.mpr (congr (congrArg P147 (jm_up (jm_up rfl (jf_upd (jf_base _ _) rfl q1 (by decide) rfl)) (jf_upd (jf_base _ _) rfl q1 (by decide) (add_J (rd_J (jf_base _ _) rfl q1 (by decide)) jl_1)))) rfl) (p147 q4), ?_⟩
    obtain ⟨q5, H⟩ := H
    refine ⟨inb_J rfl q1 (by decide), ?_⟩
    exact H.trans (rt_n (jm_up (jm_up (jm_up rfl (jf_upd (jf_base _ _) rfl q1 (by decide) rfl)) (jf_upd (jf_base _ _) rfl q1 (by decide) (add_J (rd_J (jf_base _ _) rfl q1 (by decide)) jl_1))) (jf_upd (jf_base _ _) rfl q1 (by decide) (add_J (rd_J (jf_base _ _) rfl q1 (by decide)) ((congr (congrArg F206 (jm_up (jm_up rfl (jf_upd (jf_base _ _) rfl q1 (by decide) rfl)) (jf_upd (jf_base _ _) rfl q1 (by decide) (add_J (rd_J (jf_base _ _) rfl q1 (by decide)) jl_1)))) ((congr (congrArg F147 (jm_up (jm_up rfl (jf_upd (jf_base _ _) rfl q1 (by decide) rfl)) (jf_upd (jf_base _ _) rfl q1 (by decide) (add_J (rd_J (jf_base _ _) rfl q1 (by decide)) jl_1)))) rfl).trans (t147 q4))).trans (t206 q5))))))
