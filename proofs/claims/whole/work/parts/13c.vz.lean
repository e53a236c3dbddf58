/-! by program (wpz.py): the formulas over the integers -/
-- 62 GlassWires$Net isHeldNow (I)Z
theorem v62_0 {E : gw_N} {N : NM} {res : Option Value × gw_H} {x1 : Int} (H : ((Q152 N x1) ∧ ((R (G152 N x1)) ∧ (((G152 N x1) = 0 → Ev 2 62 15 [some (.ref 22), some (.int (J x1)), some (.int (J 0))] [] (hs E (jm N)) res) ∧ (¬ (G152 N x1) = 0 → res = (some (.int (J 1)), hs E (jm N))))))) : Ev 2 62 0 [some (.ref 22), some (.int (J x1)), none] [] (hs E (jm N)) res := by
  refine w62_0 ?_
  obtain ⟨q1, H⟩ := H
  refine ⟨Eq.mpr (congr (congrArg P152 rfl) rfl) (p152 q1), ?_⟩
  obtain ⟨q2, H⟩ := H
  refine ⟨fun hc => ?_, fun hc => ?_⟩
  · replace H := H.1 ((eq_J ((congr (congrArg F152 rfl) rfl).trans (t152 q1)) jl_0 q2 (by decide)).mp hc)
    exact Ev_to (clx (cli rfl (cli jl_0 rfl))) rfl rfl H
  · replace H := H.2 (fun hz => hc ((eq_J ((congr (congrArg F152 rfl) rfl).trans (t152 q1)) jl_0 q2 (by decide)).mpr hz))
    exact H.trans (rt_i jl_1 rfl)
theorem v62_15 {E : gw_N} {N : NM} {res : Option Value × gw_H} {x1 : Int} {x2 : Int} (H : ((Q149 N x1) ∧ ((R (G149 N x1)) ∧ ((R x2) ∧ (((G149 N x1) < x2 → res = (some (.int (J 0)), hs E (jm N))) ∧ (¬ (G149 N x1) < x2 → ((Q153 N x1 x2) ∧ ((0 ≤ (G153 N x1 x2) ∧ (G153 N x1 x2) < 89) ∧ ((R ((N 29) (G153 N x1 x2))) ∧ ((((N 29) (G153 N x1 x2)) = 0 → Ev 2 62 15 [some (.ref 22), some (.int (J x1)), some (.int (J (x2 + 1)))] [] (hs E (jm N)) res) ∧ (¬ ((N 29) (G153 N x1 x2)) = 0 → res = (some (.int (J 1)), hs E (jm N))))))))))))) : Ev 2 62 15 [some (.ref 22), some (.int (J x1)), some (.int (J x2))] [] (hs E (jm N)) res := by
  refine w62_15 ?_
  obtain ⟨q1, H⟩ := H
  refine ⟨Eq.mpr (congr (congrArg P149 rfl) rfl) (p149 q1), ?_⟩
  obtain ⟨q2, q3, H⟩ := H
  refine ⟨fun hc => ?_, fun hc => ?_⟩
  · replace H := H.1 ((lt_J ((congr (congrArg F149 rfl) rfl).trans (t149 q1)) rfl q2 q3).mp hc)
    exact H.trans (rt_i jl_0 rfl)
  · replace H := H.2 (fun hz => hc ((lt_J ((congr (congrArg F149 rfl) rfl).trans (t149 q1)) rfl q2 q3).mpr hz))
    obtain ⟨q4, H⟩ := H
    refine ⟨Eq.mpr (congr (congr (congrArg P153 rfl) rfl) rfl) (p153 q4), ?_⟩
    obtain ⟨q5, H⟩ := H
    refine ⟨inb_J ((congr (congr (congrArg F153 rfl) rfl) rfl).trans (t153 q4)) q5 (by decide), ?_⟩
    obtain ⟨q6, H⟩ := H
    refine ⟨fun hc => ?_, fun hc => ?_⟩
    · replace H := H.1 ((eq_J (rd_J (jf_base _ _) ((congr (congr (congrArg F153 rfl) rfl) rfl).trans (t153 q4)) q5 (by decide)) jl_0 q6 (by decide)).mp hc)
      exact Ev_to (clx (cli rfl (cli (add_J rfl jl_1) rfl))) rfl rfl H
    · replace H := H.2 (fun hz => hc ((eq_J (rd_J (jf_base _ _) ((congr (congr (congrArg F153 rfl) rfl) rfl).trans (t153 q4)) q5 (by decide)) jl_0 q6 (by decide)).mpr hz))
      exact H.trans (rt_i jl_1 rfl)
-- 63 GlassWires$Net hold (I)V
theorem v63_0 {E : gw_N} {N : NM} {res : Option Value × gw_H} {x1 : Int} (H : ((0 ≤ x1 ∧ x1 < 30) ∧ Ev 2 63 9 [some (.ref 22), some (.int (J x1)), some (.int (J 0))] [] (hs E (jm (upZ N 28 (updZ (N 28) x1 1)))) res)) : Ev 2 63 0 [some (.ref 22), some (.int (J x1)), none] [] (hs E (jm N)) res := by
  refine w63_0 ?_
  obtain ⟨q1, H⟩ := H
  refine ⟨inb_J rfl q1 (by decide), ?_⟩
  exact Ev_to (clx (cli rfl (cli jl_0 rfl))) rfl (jm_up rfl (jf_upd (jf_base _ _) rfl q1 (by decide) jl_1)) H
theorem v63_9 {E : gw_N} {N : NM} {res : Option Value × gw_H} {x1 : Int} {x2 : Int} (H : ((Q149 N x1) ∧ ((R (G149 N x1)) ∧ ((R x2) ∧ (((G149 N x1) < x2 → res = (none, hs E (jm N))) ∧ (¬ (G149 N x1) < x2 → ((Q153 N x1 x2) ∧ ((0 ≤ (G153 N x1 x2) ∧ (G153 N x1 x2) < 89) ∧ Ev 2 63 9 [some (.ref 22), some (.int (J x1)), some (.int (J (x2 + 1)))] [] (hs E (jm (upZ N 29 (updZ (N 29) (G153 N x1 x2) 1)))) res)))))))) : Ev 2 63 9 [some (.ref 22), some (.int (J x1)), some (.int (J x2))] [] (hs E (jm N)) res := by
  refine w63_9 ?_
  obtain ⟨q1, H⟩ := H
  refine ⟨Eq.mpr (congr (congrArg P149 rfl) rfl) (p149 q1), ?_⟩
  obtain ⟨q2, q3, H⟩ := H
  refine ⟨fun hc => ?_, fun hc => ?_⟩
  · replace H := H.1 ((lt_J ((congr (congrArg F149 rfl) rfl).trans (t149 q1)) rfl q2 q3).mp hc)
    exact H.trans (rt_n rfl)
  · replace H := H.2 (fun hz => hc ((lt_J ((congr (congrArg F149 rfl) rfl).trans (t149 q1)) rfl q2 q3).mpr hz))
    obtain ⟨q4, H⟩ := H
    refine ⟨Eq.mpr (congr (congr (congrArg P153 rfl) rfl) rfl) (p153 q4), ?_⟩
    obtain ⟨q5, H⟩ := H
    refine ⟨inb_J ((congr (congr (congrArg F153 rfl) rfl) rfl).trans (t153 q4)) q5 (by decide), ?_⟩
    exact Ev_to (clx (cli rfl (cli (add_J rfl jl_1) rfl))) rfl (jm_up rfl (jf_upd (jf_base _ _) ((congr (congr (congrArg F153 rfl) rfl) rfl).trans (t153 q4)) q5 (by decide) jl_1)) H
-- 64 GlassWires$Net floats (I)Z
theorem v64_0 {E : gw_N} {N : NM} {res : Option Value × gw_H} {x1 : Int} (H : ((Q145 N x1) ∧ ((R (G145 N x1)) ∧ (((G145 N x1) = 0 → res = (some (.int (J 0)), hs E (jm N))) ∧ (¬ (G145 N x1) = 0 → ((0 ≤ x1 ∧ x1 < 30) ∧ ((R ((N 28) x1)) ∧ ((((N 28) x1) = 0 → res = (some (.int (J 1)), hs E (jm N))) ∧ (¬ ((N 28) x1) = 0 → res = (some (.int (J 0)), hs E (jm N))))))))))) : Ev 2 64 0 [some (.ref 22), some (.int (J x1))] [] (hs E (jm N)) res := by
  refine w64_0 ?_
  obtain ⟨q1, H⟩ := H
  refine ⟨Eq.mpr (congr (congrArg P145 rfl) rfl) (p145 q1), ?_⟩
  obtain ⟨q2, H⟩ := H
  refine ⟨fun hc => ?_, fun hc => ?_⟩
  · replace H := H.1 ((eq_J ((congr (congrArg F145 rfl) rfl).trans (t145 q1)) jl_0 q2 (by decide)).mp hc)
    exact H.trans (rt_i jl_0 rfl)
  · replace H := H.2 (fun hz => hc ((eq_J ((congr (congrArg F145 rfl) rfl).trans (t145 q1)) jl_0 q2 (by decide)).mpr hz))
    obtain ⟨q3, H⟩ := H
    refine ⟨inb_J rfl q3 (by decide), ?_⟩
    obtain ⟨q4, H⟩ := H
    refine ⟨fun hc => ?_, fun hc => ?_⟩
    · replace H := H.1 ((eq_J (rd_J (jf_base _ _) rfl q3 (by decide)) jl_0 q4 (by decide)).mp hc)
      exact H.trans (rt_i jl_1 rfl)
    · replace H := H.2 (fun hz => hc ((eq_J (rd_J (jf_base _ _) rfl q3 (by decide)) jl_0 q4 (by decide)).mpr hz))
      exact H.trans (rt_i jl_0 rfl)
def G64 (N : NM) (x1 : Int) : Int := (if (G145 N x1) = 0 then 0 else (if ((N 28) x1) = 0 then 1 else 0))
def Q64 (N : NM) (x1 : Int) : Prop := ((Q145 N x1) ∧ ((R (G145 N x1)) ∧ (((G145 N x1) = 0 → True) ∧ (¬ (G145 N x1) = 0 → ((0 ≤ x1 ∧ x1 < 30) ∧ ((R ((N 28) x1)) ∧ ((((N 28) x1) = 0 → True) ∧ (¬ ((N 28) x1) = 0 → True))))))))
theorem t64 {N : NM} {x1 : Int} (H : Q64 N x1) : F64 (jm N) (J x1) = J (G64 N x1) := by
  unfold Q64 at H
  unfold F64 G64
  obtain ⟨q1, H⟩ := H
  obtain ⟨q2, H⟩ := H
  refine ite_J (eq_J ((congr (congrArg F145 rfl) rfl).trans (t145 q1)) jl_0 q2 (by decide)) (fun hc => ?_) (fun hc => ?_)
  · replace H := H.1 ((eq_J ((congr (congrArg F145 rfl) rfl).trans (t145 q1)) jl_0 q2 (by decide)).mp hc)
    exact jl_0
  · replace H := H.2 (fun hz => hc ((eq_J ((congr (congrArg F145 rfl) rfl).trans (t145 q1)) jl_0 q2 (by decide)).mpr hz))
    obtain ⟨q3, H⟩ := H
    obtain ⟨q4, H⟩ := H
    refine ite_J (eq_J (rd_J (jf_base _ _) rfl q3 (by decide)) jl_0 q4 (by decide)) (fun hc => ?_) (fun hc => ?_)
    · replace H := H.1 ((eq_J (rd_J (jf_base _ _) rfl q3 (by decide)) jl_0 q4 (by decide)).mp hc)
      exact jl_1
    · replace H := H.2 (fun hz => hc ((eq_J (rd_J (jf_base _ _) rfl q3 (by decide)) jl_0 q4 (by decide)).mpr hz))
      exact jl_0
theorem p64 {N : NM} {x1 : Int} (H : Q64 N x1) : P64 (jm N) (J x1) := by
  unfold Q64 at H
  unfold P64
  obtain ⟨q1, H⟩ := H
  refine ⟨Eq.mpr (congr (congrArg P145 rfl) rfl) (p145 q1), ?_⟩
  obtain ⟨q2, H⟩ := H
  refine ⟨fun hc => ?_, fun hc => ?_⟩
  · replace H := H.1 ((eq_J ((congr (congrArg F145 rfl) rfl).trans (t145 q1)) jl_0 q2 (by decide)).mp hc)
    trivial
  · replace H := H.2 (fun hz => hc ((eq_J ((congr (congrArg F145 rfl) rfl).trans (t145 q1)) jl_0 q2 (by decide)).mpr hz))
    obtain ⟨q3, H⟩ := H
    exact inb_J rfl q3 (by decide)
theorem sz64 {E : gw_N} {N : NM} {x1 : Int} (H : Q64 N x1) : Rn 64 [.ref 22, .int (J x1)] (hs E (jm N)) (some (.int (J (G64 N x1)))) (hs E (jm N)) := by
  have h := s64 (E := E) (M := jm N) (x1 := J x1) (p64 H)
  rw [t64 H] at h
  exact h
-- 69 GlassWires$Net edgesUnder (I)I
theorem v69_0 {E : gw_N} {N : NM} {res : Option Value × gw_H} {x1 : Int} (H : Ev 2 69 4 [some (.ref 22), some (.int (J x1)), some (.int (J 0)), some (.int (J 0))] [] (hs E (jm N)) res) : Ev 2 69 0 [some (.ref 22), some (.int (J x1)), none, none] [] (hs E (jm N)) res := by
  refine w69_0 ?_
  exact Ev_to (clx (cli rfl (cli jl_0 (cli jl_0 rfl)))) rfl rfl H
theorem v69_4 {E : gw_N} {N : NM} {res : Option Value × gw_H} {x1 : Int} {x2 : Int} {x3 : Int} (H : ((R x3) ∧ (((178 : Int) ≤ x3 → res = (some (.int (J x2)), hs E (jm N))) ∧ (¬ (178 : Int) ≤ x3 → ((0 ≤ x3 ∧ x3 < 178) ∧ ((R ((N 23) x3)) ∧ ((R x1) ∧ ((((N 23) x3) < x1 → ((Q206 N 0) ∧ Ev 2 69 4 [some (.ref 22), some (.int (J x1)), some (.int (J (x2 + (G206 N 0)))), some (.int (J (x3 + 1)))] [] (hs E (jm N)) res)) ∧ (¬ ((N 23) x3) < x1 → ((Q206 N 1) ∧ Ev 2 69 4 [some (.ref 22), some (.int (J x1)), some (.int (J (x2 + (G206 N 1)))), some (.int (J (x3 + 1)))] [] (hs E (jm N)) res)))))))))) : Ev 2 69 4 [some (.ref 22), some (.int (J x1)), some (.int (J x2)), some (.int (J x3))] [] (hs E (jm N)) res := by
  refine w69_4 ?_
  obtain ⟨q1, H⟩ := H
  refine ⟨fun hc => ?_, fun hc => ?_⟩
  · replace H := H.1 ((le_J jl_178 rfl (by decide) q1).mp hc)
    exact H.trans (rt_i rfl rfl)
  · replace H := H.2 (fun hz => hc ((le_J jl_178 rfl (by decide) q1).mpr hz))
    obtain ⟨q2, H⟩ := H
    refine ⟨inb_J rfl q2 (by decide), ?_⟩
    obtain ⟨q3, q4, H⟩ := H
    refine ⟨fun hc => ?_, fun hc => ?_⟩
    · replace H := H.1 ((lt_J (rd_J (jf_base _ _) rfl q2 (by decide)) rfl q3 q4).mp hc)
      obtain ⟨q5, H⟩ := H
      exact Ev_to (clx (cli rfl (cli (add_J rfl ((congr (congrArg F206 rfl) jl_0).trans (t206 q5))) (cli (add_J rfl jl_1) rfl)))) rfl rfl H
    · replace H := H.2 (fun hz => hc ((lt_J (rd_J (jf_base _ _) rfl q2 (by decide)) rfl q3 q4).mpr hz))
      obtain ⟨q6, H⟩ := H
      exact Ev_to (clx (cli rfl (cli (add_J rfl ((congr (congrArg F206 rfl) jl_1).trans (t206 q6))) (cli (add_J rfl jl_1) rfl)))) rfl rfl H
-- 81 GlassWires$Page lettersIn (J)I
theorem v81_0 {E : gw_N} {N : NM} {res : Option Value × gw_H} {x0 : Int64} (H : Ev 2 81 4 [some (.long x0), none, some (.int (J 0)), some (.int (J 0)), none] [] (hs E (jm N)) res) : Ev 2 81 0 [some (.long x0), none, none, none, none] [] (hs E (jm N)) res := by
  refine w81_0 ?_
  exact Ev_to (cll rfl (clx (cli jl_0 (cli jl_0 (clx rfl))))) rfl rfl H
theorem v81_4 {E : gw_N} {N : NM} {res : Option Value × gw_H} {x0 : Int64} {x2 : Int} {x3 : Int} (H : ((R x3) ∧ (((8 : Int) ≤ x3 → res = (some (.int (J x2)), hs E (jm N))) ∧ (¬ (8 : Int) ≤ x3 → ((R (G82 N x0 x3)) ∧ (((126 : Int) < (G82 N x0 x3) → res = (some (.int (J (-1))), hs E (jm N))) ∧ (¬ (126 : Int) < (G82 N x0 x3) → (((G82 N x0 x3) = 0 → (((G82 N x0 x3) = 0 → Ev 2 81 4 [some (.long x0), none, some (.int (J x2)), some (.int (J (x3 + 1))), none] [] (hs E (jm N)) res) ∧ (¬ (G82 N x0 x3) = 0 → Ev 2 81 4 [some (.long x0), none, some (.int (J (x2 + 1))), some (.int (J (x3 + 1))), none] [] (hs E (jm N)) res))) ∧ (¬ (G82 N x0 x3) = 0 → ((R x2) ∧ ((x3 ≤ x2 → (((G82 N x0 x3) = 0 → Ev 2 81 4 [some (.long x0), none, some (.int (J x2)), some (.int (J (x3 + 1))), none] [] (hs E (jm N)) res) ∧ (¬ (G82 N x0 x3) = 0 → Ev 2 81 4 [some (.long x0), none, some (.int (J (x2 + 1))), some (.int (J (x3 + 1))), none] [] (hs E (jm N)) res))) ∧ (¬ x3 ≤ x2 → res = (some (.int (J (-1))), hs E (jm N)))))))))))))) : Ev 2 81 4 [some (.long x0), none, some (.int (J x2)), some (.int (J x3)), none] [] (hs E (jm N)) res := by
  refine w81_4 ?_
  obtain ⟨q1, H⟩ := H
  refine ⟨fun hc => ?_, fun hc => ?_⟩
  · replace H := H.1 ((le_J jl_8 rfl (by decide) q1).mp hc)
    exact H.trans (rt_i rfl rfl)
  · replace H := H.2 (fun hz => hc ((le_J jl_8 rfl (by decide) q1).mpr hz))
    obtain ⟨q2, H⟩ := H
    refine ⟨fun hc => ?_, fun hc => ?_⟩
    · replace H := H.1 ((lt_J jl_126 ((congr (congr (congrArg F82 rfl) rfl) rfl).trans (t82)) (by decide) q2).mp hc)
      exact H.trans (rt_i jl_m1 rfl)
    · replace H := H.2 (fun hz => hc ((lt_J jl_126 ((congr (congr (congrArg F82 rfl) rfl) rfl).trans (t82)) (by decide) q2).mpr hz))
      refine ⟨fun hc => ?_, fun hc => ?_⟩
      · replace H := H.1 ((eq_J ((congr (congr (congrArg F82 rfl) rfl) rfl).trans (t82)) jl_0 q2 (by decide)).mp hc)
        refine ⟨fun hc => ?_, fun hc => ?_⟩
        · replace H := H.1 ((eq_J ((congr (congr (congrArg F82 rfl) rfl) rfl).trans (t82)) jl_0 q2 (by decide)).mp hc)
          exact Ev_to (cll rfl (clx (cli rfl (cli (add_J rfl jl_1) (clx rfl))))) rfl rfl H
        · replace H := H.2 (fun hz => hc ((eq_J ((congr (congr (congrArg F82 rfl) rfl) rfl).trans (t82)) jl_0 q2 (by decide)).mpr hz))
          exact Ev_to (cll rfl (clx (cli (add_J rfl jl_1) (cli (add_J rfl jl_1) (clx rfl))))) rfl rfl H
      · replace H := H.2 (fun hz => hc ((eq_J ((congr (congr (congrArg F82 rfl) rfl) rfl).trans (t82)) jl_0 q2 (by decide)).mpr hz))
        obtain ⟨q3, H⟩ := H
        refine ⟨fun hc => ?_, fun hc => ?_⟩
        · replace H := H.1 ((le_J rfl rfl q1 q3).mp hc)
          refine ⟨fun hc => ?_, fun hc => ?_⟩
          · replace H := H.1 ((eq_J ((congr (congr (congrArg F82 rfl) rfl) rfl).trans (t82)) jl_0 q2 (by decide)).mp hc)
            exact Ev_to (cll rfl (clx (cli rfl (cli (add_J rfl jl_1) (clx rfl))))) rfl rfl H
          · replace H := H.2 (fun hz => hc ((eq_J ((congr (congr (congrArg F82 rfl) rfl) rfl).trans (t82)) jl_0 q2 (by decide)).mpr hz))
            exact Ev_to (cll rfl (clx (cli (add_J rfl jl_1) (cli (add_J rfl jl_1) (clx rfl))))) rfl rfl H
        · replace H := H.2 (fun hz => hc ((le_J rfl rfl q1 q3).mpr hz))
          exact H.trans (rt_i jl_m1 rfl)
-- 84 GlassWires$Page goodMoves (LGlassWires$Grid;II)I
theorem v84_0 {E : gw_N} {N : NM} {res : Option Value × gw_H} {x2 : Int} {x3 : Int} (H : Ev 2 84 9 [some (.ref 12), some (.ref 9), none, none, some (.int (J x2)), some (.int (J x3)), some (.int (J 0)), none] [] (hs E (jm N)) res) : Ev 2 84 0 [some (.ref 12), some (.ref 9), some (.int (J x2)), some (.int (J x3)), none, none, none, none] [] (hs E (jm N)) res := by
  refine w84_0 ?_
  exact Ev_to (clx (clx (clx (clx (cli rfl (cli rfl (cli jl_0 (clx rfl)))))))) rfl rfl H
theorem v84_9 {E : gw_N} {N : NM} {res : Option Value × gw_H} {x4 : Int} {x5 : Int} {x6 : Int} (H : ((R x6) ∧ (((24 : Int) ≤ x6 → res = (some (.int (J 24)), hs E (jm N))) ∧ (¬ (24 : Int) ≤ x6 → ((Q83 N x6) ∧ ((Q53 N (G83 N x6)) ∧ ((Q54 N (G83 N x6)) ∧ ((R (G83 N x6)) ∧ (((G83 N x6) = (-1) → res = (some (.int (J x6)), hs E (jm N))) ∧ (¬ (G83 N x6) = (-1) → ((Q41 N (x4 + (G53 N (G83 N x6))) (x5 + (G54 N (G83 N x6)))) ∧ ((R (G41 N (x4 + (G53 N (G83 N x6))) (x5 + (G54 N (G83 N x6))))) ∧ (((G41 N (x4 + (G53 N (G83 N x6))) (x5 + (G54 N (G83 N x6)))) = 0 → res = (some (.int (J x6)), hs E (jm N))) ∧ (¬ (G41 N (x4 + (G53 N (G83 N x6))) (x5 + (G54 N (G83 N x6)))) = 0 → Ev 2 84 9 [some (.ref 12), some (.ref 9), none, none, some (.int (J (x4 + (G53 N (G83 N x6))))), some (.int (J (x5 + (G54 N (G83 N x6))))), some (.int (J (x6 + 1))), none] [] (hs E (jm N)) res)))))))))))))) : Ev 2 84 9 [some (.ref 12), some (.ref 9), none, none, some (.int (J x4)), some (.int (J x5)), some (.int (J x6)), none] [] (hs E (jm N)) res := by
  refine w84_9 ?_
  obtain ⟨q1, H⟩ := H
  refine ⟨fun hc => ?_, fun hc => ?_⟩
  · replace H := H.1 ((le_J jl_24 rfl (by decide) q1).mp hc)
    exact H.trans (rt_i jl_24 rfl)
  · replace H := H.2 (fun hz => hc ((le_J jl_24 rfl (by decide) q1).mpr hz))
    obtain ⟨q2, H⟩ := H
    refine ⟨Eq.mpr (congr (congrArg P83 rfl) rfl) (p83 q2), ?_⟩
    obtain ⟨q3, H⟩ := H
    obtain ⟨q4, H⟩ := H
    obtain ⟨q5, H⟩ := H
    refine ⟨fun hc => ?_, fun hc => ?_⟩
    · replace H := H.1 ((eq_J ((congr (congrArg F83 rfl) rfl).trans (t83 q2)) jl_m1 q5 (by decide)).mp hc)
      exact H.trans (rt_i rfl rfl)
    · replace H := H.2 (fun hz => hc ((eq_J ((congr (congrArg F83 rfl) rfl).trans (t83 q2)) jl_m1 q5 (by decide)).mpr hz))
      obtain ⟨q6, H⟩ := H
      obtain ⟨q7, H⟩ := H
      refine ⟨fun hc => ?_, fun hc => ?_⟩
      · replace H := H.1 ((eq_J ((congr (congr (congrArg F41 rfl) (add_J rfl ((congr (congrArg F53 rfl) ((congr (congrArg F83 rfl) rfl).trans (t83 q2))).trans (t53 q3)))) (add_J rfl ((congr (congrArg F54 rfl) ((congr (congrArg F83 rfl) rfl).trans (t83 q2))).trans (t54 q4)))).trans (t41 q6)) jl_0 q7 (by decide)).mp hc)
        exact H.trans (rt_i rfl rfl)
      · replace H := H.2 (fun hz => hc ((eq_J ((congr (congr (congrArg F41 rfl) (add_J rfl ((congr (congrArg F53 rfl) ((congr (congrArg F83 rfl) rfl).trans (t83 q2))).trans (t53 q3)))) (add_J rfl ((congr (congrArg F54 rfl) ((congr (congrArg F83 rfl) rfl).trans (t83 q2))).trans (t54 q4)))).trans (t41 q6)) jl_0 q7 (by decide)).mpr hz))
        exact Ev_to (clx (clx (clx (clx (cli (add_J rfl ((congr (congrArg F53 rfl) ((congr (congrArg F83 rfl) rfl).trans (t83 q2))).trans (t53 q3))) (cli (add_J rfl ((congr (congrArg F54 rfl) ((congr (congrArg F83 rfl) rfl).trans (t83 q2))).trans (t54 q4))) (cli (add_J rfl jl_1) (clx rfl)))))))) rfl rfl H
-- 86 GlassWires$Page digestOn (J)J
theorem v86_0 {E : gw_N} {N : NM} {res : Option Value × gw_H} {x1 : Int64} (H : Ev 2 86 5 [some (.ref 12), none, none, some (.long x1), none, some (.int (J 0))] [] (hs E (jm N)) res) : Ev 2 86 0 [some (.ref 12), some (.long x1), none, none, none, none] [] (hs E (jm N)) res := by
  refine w86_0 ?_
  exact Ev_to (clx (clx (clx (cll rfl (clx (cli jl_0 rfl)))))) rfl rfl H
theorem v86_5 {E : gw_N} {N : NM} {res : Option Value × gw_H} {x3 : Int64} {x5 : Int} (H : ((R ((N 12) 1)) ∧ ((R x5) ∧ ((((N 12) 1) ≤ x5 → res = (some (.long x3), hs E (jm N))) ∧ (¬ ((N 12) 1) ≤ x5 → ((0 ≤ x5 ∧ x5 < 40) ∧ Ev 2 86 5 [some (.ref 12), none, none, some (.long (G207 N x3 (Int32.toInt64 (J ((N 13) x5))))), none, some (.int (J (x5 + 1)))] [] (hs E (jm N)) res)))))) : Ev 2 86 5 [some (.ref 12), none, none, some (.long x3), none, some (.int (J x5))] [] (hs E (jm N)) res := by
  refine w86_5 ?_
  obtain ⟨q1, q2, H⟩ := H
  refine ⟨fun hc => ?_, fun hc => ?_⟩
  · replace H := H.1 ((le_J (fld_J (jf_base _ _)) rfl q1 q2).mp hc)
    exact H.trans (rt_l rfl rfl)
  · replace H := H.2 (fun hz => hc ((le_J (fld_J (jf_base _ _)) rfl q1 q2).mpr hz))
    obtain ⟨q3, H⟩ := H
    refine ⟨inb_J rfl q3 (by decide), ?_⟩
    exact Ev_to (clx (clx (clx (cll ((congr (congr (congrArg F207 rfl) rfl) (congrArg Int32.toInt64 (rd_J (jf_base _ _) rfl q3 (by decide)))).trans (t207)) (clx (cli (add_J rfl jl_1) rfl)))))) rfl rfl H
-- 100 GlassWires$Palette bearableHeat (I)I
theorem v100_0 {E : gw_N} {N : NM} {res : Option Value × gw_H} {x1 : Int} (H : ((Q99 N x1) ∧ res = (some (.int (J ((G99 N x1) + 50))), hs E (jm N)))) : Ev 2 100 0 [some (.ref 40), some (.int (J x1))] [] (hs E (jm N)) res := by
  refine w100_0 ?_
  obtain ⟨q1, H⟩ := H
  refine ⟨Eq.mpr (congr (congrArg P99 rfl) rfl) (p99 q1), ?_⟩
  exact H.trans (rt_i (add_J ((congr (congrArg F99 rfl) rfl).trans (t99 q1)) jl_50) rfl)
def G100 (N : NM) (x1 : Int) : Int := ((G99 N x1) + 50)
def Q100 (N : NM) (x1 : Int) : Prop := ((Q99 N x1) ∧ True)
theorem t100 {N : NM} {x1 : Int} (H : Q100 N x1) : F100 (jm N) (J x1) = J (G100 N x1) := by
  unfold Q100 at H
  unfold F100 G100
  obtain ⟨q1, H⟩ := H
  exact (add_J ((congr (congrArg F99 rfl) rfl).trans (t99 q1)) jl_50)
theorem p100 {N : NM} {x1 : Int} (H : Q100 N x1) : P100 (jm N) (J x1) := by
  unfold Q100 at H
  unfold P100
  obtain ⟨q1, H⟩ := H
  exact Eq.mpr (congr (congrArg P99 rfl) rfl) (p99 q1)
theorem sz100 {E : gw_N} {N : NM} {x1 : Int} (H : Q100 N x1) : Rn 100 [.ref 40, .int (J x1)] (hs E (jm N)) (some (.int (J (G100 N x1)))) (hs E (jm N)) := by
  have h := s100 (E := E) (M := jm N) (x1 := J x1) (p100 H)
  rw [t100 H] at h
  exact h
-- 108 GlassWires$Palette fillsOf (I)I
theorem v108_0 {E : gw_N} {N : NM} {res : Option Value × gw_H} {x1 : Int} (H : Ev 2 108 4 [some (.ref 40), some (.int (J x1)), some (.int (J 0)), some (.int (J 0))] [] (hs E (jm N)) res) : Ev 2 108 0 [some (.ref 40), some (.int (J x1)), none, none] [] (hs E (jm N)) res := by
  refine w108_0 ?_
  exact Ev_to (clx (cli rfl (cli jl_0 (cli jl_0 rfl)))) rfl rfl H
theorem v108_4 {E : gw_N} {N : NM} {res : Option Value × gw_H} {x1 : Int} {x2 : Int} {x3 : Int} (H : ((Q103 N) ∧ ((R ((G103 N) - 1)) ∧ ((R x2) ∧ ((((G103 N) - 1) ≤ x2 → res = (some (.int (J x3)), hs E (jm N))) ∧ (¬ ((G103 N) - 1) ≤ x2 → ((R (G103 N)) ∧ ((R x3) ∧ (((G103 N) ≤ x3 → res = (some (.int (J x3)), hs E (jm N))) ∧ (¬ (G103 N) ≤ x3 → ((Q102 N x1 ((G103 N) - x2)) ∧ Ev 2 108 4 [some (.ref 40), some (.int (J x1)), some (.int (J (x2 + (G102 N x1 ((G103 N) - x2))))), some (.int (J (x3 + 1)))] [] (hs E (jm N)) res))))))))))) : Ev 2 108 4 [some (.ref 40), some (.int (J x1)), some (.int (J x2)), some (.int (J x3))] [] (hs E (jm N)) res := by
  refine w108_4 ?_
  obtain ⟨q1, H⟩ := H
  refine ⟨Eq.mpr (congrArg P103 rfl) (p103 q1), ?_⟩
  obtain ⟨q2, q3, H⟩ := H
  refine ⟨fun hc => ?_, fun hc => ?_⟩
  · replace H := H.1 ((le_J (sub_J ((congrArg F103 rfl).trans (t103 q1)) jl_1) rfl q2 q3).mp hc)
    exact H.trans (rt_i rfl rfl)
  · replace H := H.2 (fun hz => hc ((le_J (sub_J ((congrArg F103 rfl).trans (t103 q1)) jl_1) rfl q2 q3).mpr hz))
    refine ⟨Eq.mpr (congrArg P103 rfl) (p103 q1), ?_⟩
    obtain ⟨q4, q5, H⟩ := H
    refine ⟨fun hc => ?_, fun hc => ?_⟩
    · replace H := H.1 ((le_J ((congrArg F103 rfl).trans (t103 q1)) rfl q4 q5).mp hc)
      exact H.trans (rt_i rfl rfl)
    · replace H := H.2 (fun hz => hc ((le_J ((congrArg F103 rfl).trans (t103 q1)) rfl q4 q5).mpr hz))
      refine ⟨Eq.mpr (congrArg P103 rfl) (p103 q1), ?_⟩
      obtain ⟨q6, H⟩ := H
      refine ⟨Eq.mpr (congr (congr (congrArg P102 rfl) rfl) (sub_J ((congrArg F103 rfl).trans (t103 q1)) rfl)) (p102 q6), ?_⟩
      exact Ev_to (clx (cli rfl (cli (add_J rfl ((congr (congr (congrArg F102 rfl) rfl) (sub_J ((congrArg F103 rfl).trans (t103 q1)) rfl)).trans (t102 q6))) (cli (add_J rfl jl_1) rfl)))) rfl rfl H
-- 109 GlassWires$Palette digestOn (J)J
theorem v109_0 {E : gw_N} {N : NM} {res : Option Value × gw_H} {x1 : Int64} (H : Ev 2 109 5 [some (.ref 40), none, none, some (.long x1), none, some (.int (J 0)), none] [] (hs E (jm N)) res) : Ev 2 109 0 [some (.ref 40), some (.long x1), none, none, none, none, none] [] (hs E (jm N)) res := by
  refine w109_0 ?_
  exact Ev_to (clx (clx (clx (cll rfl (clx (cli jl_0 (clx rfl))))))) rfl rfl H
theorem v109_5 {E : gw_N} {N : NM} {res : Option Value × gw_H} {x3 : Int64} {x5 : Int} (H : ((R x5) ∧ (((24 : Int) ≤ x5 → Ev 2 109 34 [some (.ref 40), none, none, some (.long x3), none, some (.int (J 0)), none] [] (hs E (jm N)) res) ∧ (¬ (24 : Int) ≤ x5 → ((0 ≤ x5 ∧ x5 < 24) ∧ Ev 2 109 5 [some (.ref 40), none, none, some (.long (G207 N x3 (Int32.toInt64 (J ((N 41) x5))))), none, some (.int (J (x5 + 1))), none] [] (hs E (jm N)) res))))) : Ev 2 109 5 [some (.ref 40), none, none, some (.long x3), none, some (.int (J x5)), none] [] (hs E (jm N)) res := by
  refine w109_5 ?_
  obtain ⟨q1, H⟩ := H
  refine ⟨fun hc => ?_, fun hc => ?_⟩
  · replace H := H.1 ((le_J jl_24 rfl (by decide) q1).mp hc)
    exact Ev_to (clx (clx (clx (cll rfl (clx (cli jl_0 (clx rfl))))))) rfl rfl H
  · replace H := H.2 (fun hz => hc ((le_J jl_24 rfl (by decide) q1).mpr hz))
    obtain ⟨q2, H⟩ := H
    refine ⟨inb_J rfl q2 (by decide), ?_⟩
    exact Ev_to (clx (clx (clx (cll ((congr (congr (congrArg F207 rfl) rfl) (congrArg Int32.toInt64 (rd_J (jf_base _ _) rfl q2 (by decide)))).trans (t207)) (clx (cli (add_J rfl jl_1) (clx rfl))))))) rfl rfl H
theorem v109_34 {E : gw_N} {N : NM} {res : Option Value × gw_H} {x3 : Int64} {x5 : Int} (H : ((R x5) ∧ (((8 : Int) ≤ x5 → Ev 2 109 86 [some (.ref 40), none, none, some (.long x3), none, some (.int (J 0)), none] [] (hs E (jm N)) res) ∧ (¬ (8 : Int) ≤ x5 → Ev 2 109 47 [some (.ref 40), none, none, some (.long x3), none, some (.int (J x5)), some (.int (J (x5 + 1)))] [] (hs E (jm N)) res)))) : Ev 2 109 34 [some (.ref 40), none, none, some (.long x3), none, some (.int (J x5)), none] [] (hs E (jm N)) res := by
  refine w109_34 ?_
  obtain ⟨q1, H⟩ := H
  refine ⟨fun hc => ?_, fun hc => ?_⟩
  · replace H := H.1 ((le_J jl_8 rfl (by decide) q1).mp hc)
    exact Ev_to (clx (clx (clx (cll rfl (clx (cli jl_0 (clx rfl))))))) rfl rfl H
  · replace H := H.2 (fun hz => hc ((le_J jl_8 rfl (by decide) q1).mpr hz))
    exact Ev_to (clx (clx (clx (cll rfl (clx (cli rfl (cli (add_J rfl jl_1) rfl))))))) rfl rfl H
theorem v109_86 {E : gw_N} {N : NM} {res : Option Value × gw_H} {x3 : Int64} {x5 : Int} (H : ((R x5) ∧ (((3 : Int) ≤ x5 → res = (some (.long x3), hs E (jm N))) ∧ (¬ (3 : Int) ≤ x5 → ((0 ≤ x5 ∧ x5 < 3) ∧ Ev 2 109 86 [some (.ref 40), none, none, some (.long (G207 N x3 (Int32.toInt64 (J ((N 43) x5))))), none, some (.int (J (x5 + 1))), none] [] (hs E (jm N)) res))))) : Ev 2 109 86 [some (.ref 40), none, none, some (.long x3), none, some (.int (J x5)), none] [] (hs E (jm N)) res := by
  refine w109_86 ?_
  obtain ⟨q1, H⟩ := H
  refine ⟨fun hc => ?_, fun hc => ?_⟩
  · replace H := H.1 ((le_J jl_3 rfl (by decide) q1).mp hc)
    exact H.trans (rt_l rfl rfl)
  · replace H := H.2 (fun hz => hc ((le_J jl_3 rfl (by decide) q1).mpr hz))
    obtain ⟨q2, H⟩ := H
    refine ⟨inb_J rfl q2 (by decide), ?_⟩
    exact Ev_to (clx (clx (clx (cll ((congr (congr (congrArg F207 rfl) rfl) (congrArg Int32.toInt64 (rd_J (jf_base _ _) rfl q2 (by decide)))).trans (t207)) (clx (cli (add_J rfl jl_1) (clx rfl))))))) rfl rfl H
theorem v109_47 {E : gw_N} {N : NM} {res : Option Value × gw_H} {x3 : Int64} {x5 : Int} {x6 : Int} (H : ((R x6) ∧ (((8 : Int) ≤ x6 → Ev 2 109 34 [some (.ref 40), none, none, some (.long x3), none, some (.int (J (x5 + 1))), none] [] (hs E (jm N)) res) ∧ (¬ (8 : Int) ≤ x6 → ((Q106 N x5 x6) ∧ ((Q206 N (G106 N x5 x6)) ∧ Ev 2 109 47 [some (.ref 40), none, none, some (.long (G207 N x3 (Int32.toInt64 (J (G206 N (G106 N x5 x6)))))), none, some (.int (J x5)), some (.int (J (x6 + 1)))] [] (hs E (jm N)) res)))))) : Ev 2 109 47 [some (.ref 40), none, none, some (.long x3), none, some (.int (J x5)), some (.int (J x6))] [] (hs E (jm N)) res := by
  refine w109_47 ?_
  obtain ⟨q1, H⟩ := H
  refine ⟨fun hc => ?_, fun hc => ?_⟩
  · replace H := H.1 ((le_J jl_8 rfl (by decide) q1).mp hc)
    exact Ev_to (clx (clx (clx (cll rfl (clx (cli (add_J rfl jl_1) (clx rfl))))))) rfl rfl H
  · replace H := H.2 (fun hz => hc ((le_J jl_8 rfl (by decide) q1).mpr hz))
    obtain ⟨q2, H⟩ := H
    refine ⟨Eq.mpr (congr (congr (congrArg P106 rfl) rfl) rfl) (p106 q2), ?_⟩
    obtain ⟨q3, H⟩ := H
    exact Ev_to (clx (clx (clx (cll ((congr (congr (congrArg F207 rfl) rfl) (congrArg Int32.toInt64 ((congr (congrArg F206 rfl) ((congr (congr (congrArg F106 rfl) rfl) rfl).trans (t106 q2))).trans (t206 q3)))).trans (t207)) (clx (cli rfl (cli (add_J rfl jl_1) rfl))))))) rfl rfl H
-- 113 GlassWires$Plan coolest (I)I
theorem v113_0 {E : gw_N} {N : NM} {res : Option Value × gw_H} {x1 : Int} (H : Ev 2 113 9 [some (.ref 50), some (.int (J x1)), some (.int (J 0)), some (.int (J 999)), some (.int (J 0))] [] (hs E (jm N)) res) : Ev 2 113 0 [some (.ref 50), some (.int (J x1)), none, none, none] [] (hs E (jm N)) res := by
  refine w113_0 ?_
  exact Ev_to (clx (cli rfl (cli jl_0 (cli jl_999 (cli jl_0 rfl))))) rfl rfl H
theorem v113_9 {E : gw_N} {N : NM} {res : Option Value × gw_H} {x1 : Int} {x2 : Int} {x3 : Int} {x4 : Int} (H : ((R x4) ∧ (((8 : Int) ≤ x4 → res = (some (.int (J x2)), hs E (jm N))) ∧ (¬ (8 : Int) ≤ x4 → (((zand (zshr x1 x4) 1) = 1 → ((Q99 N x4) ∧ ((R x3) ∧ ((R (G99 N x4)) ∧ ((x3 ≤ (G99 N x4) → Ev 2 113 9 [some (.ref 50), some (.int (J x1)), some (.int (J x2)), some (.int (J x3)), some (.int (J (x4 + 1)))] [] (hs E (jm N)) res) ∧ (¬ x3 ≤ (G99 N x4) → Ev 2 113 9 [some (.ref 50), some (.int (J x1)), some (.int (J x4)), some (.int (J (G99 N x4))), some (.int (J (x4 + 1)))] [] (hs E (jm N)) res)))))) ∧ (¬ (zand (zshr x1 x4) 1) = 1 → Ev 2 113 9 [some (.ref 50), some (.int (J x1)), some (.int (J x2)), some (.int (J x3)), some (.int (J (x4 + 1)))] [] (hs E (jm N)) res)))))) : Ev 2 113 9 [some (.ref 50), some (.int (J x1)), some (.int (J x2)), some (.int (J x3)), some (.int (J x4))] [] (hs E (jm N)) res := by
  refine w113_9 ?_
  obtain ⟨q1, H⟩ := H
  refine ⟨fun hc => ?_, fun hc => ?_⟩
  · replace H := H.1 ((le_J jl_8 rfl (by decide) q1).mp hc)
    exact H.trans (rt_i rfl rfl)
  · replace H := H.2 (fun hz => hc ((le_J jl_8 rfl (by decide) q1).mpr hz))
    refine ⟨fun hc => ?_, fun hc => ?_⟩
    · replace H := H.1 ((eq_J (zand_J (zshr_J rfl rfl) jl_1) jl_1 (R_toInt _) (by decide)).mp hc)
      obtain ⟨q2, H⟩ := H
      refine ⟨Eq.mpr (congr (congrArg P99 rfl) rfl) (p99 q2), ?_⟩
      obtain ⟨q3, q4, H⟩ := H
      refine ⟨fun hc => ?_, fun hc => ?_⟩
      · replace H := H.1 ((le_J rfl ((congr (congrArg F99 rfl) rfl).trans (t99 q2)) q3 q4).mp hc)
        exact Ev_to (clx (cli rfl (cli rfl (cli rfl (cli (add_J rfl jl_1) rfl))))) rfl rfl H
      · replace H := H.2 (fun hz => hc ((le_J rfl ((congr (congrArg F99 rfl) rfl).trans (t99 q2)) q3 q4).mpr hz))
        refine ⟨Eq.mpr (congr (congrArg P99 rfl) rfl) (p99 q2), ?_⟩
        exact Ev_to (clx (cli rfl (cli rfl (cli ((congr (congrArg F99 rfl) rfl).trans (t99 q2)) (cli (add_J rfl jl_1) rfl))))) rfl rfl H
    · replace H := H.2 (fun hz => hc ((eq_J (zand_J (zshr_J rfl rfl) jl_1) jl_1 (R_toInt _) (by decide)).mpr hz))
      exact Ev_to (clx (cli rfl (cli rfl (cli rfl (cli (add_J rfl jl_1) rfl))))) rfl rfl H
-- 125 GlassWires$Rods addUpLengths (LGlassWires$Wires;)V
theorem v125_0 {E : gw_N} {N : NM} {res : Option Value × gw_H}  (H : Ev 2 125 11 [some (.ref 54), some (.ref 14), some (.int (J 1)), some (.int (J 0)), none] [] (hs E (jm (upZ N 57 (updZ (N 57) 0 0)))) res) : Ev 2 125 0 [some (.ref 54), some (.ref 14), none, none, none] [] (hs E (jm N)) res := by
  refine w125_0 ?_
  refine ⟨inb_J jl_0 (by decide : (0 : Int) ≤ 0 ∧ (0 : Int) < 256) (by decide), ?_⟩
  exact Ev_to (clx (clx (cli jl_1 (cli jl_0 (clx rfl))))) rfl (jm_up rfl (jf_upd (jf_base _ _) jl_0 (by decide : (0 : Int) ≤ 0 ∧ (0 : Int) < 256) (by decide) jl_0)) H
theorem v125_11 {E : gw_N} {N : NM} {res : Option Value × gw_H} {x2 : Int} {x3 : Int} (H : ((R (G143 N)) ∧ ((R x3) ∧ (((G143 N) ≤ x3 → res = (none, hs E (jm N))) ∧ (¬ (G143 N) ≤ x3 → ((Q145 N x3) ∧ ((R (G145 N x3)) ∧ (((G145 N x3) = 0 → Ev 2 125 11 [some (.ref 54), some (.ref 14), some (.int (J x2)), some (.int (J (x3 + 1))), none] [] (hs E (jm N)) res) ∧ (¬ (G145 N x3) = 0 → ((R x2) ∧ (((256 : Int) ≤ x2 → Ev 2 125 11 [some (.ref 54), some (.ref 14), some (.int (J x2)), some (.int (J (x3 + 1))), none] [] (hs E (jm N)) res) ∧ (¬ (256 : Int) ≤ x2 → Ev 2 125 37 [some (.ref 54), some (.ref 14), some (.int (J x2)), some (.int (J x3)), some (.int (J 0))] [] (hs E (jm N)) res)))))))))))) : Ev 2 125 11 [some (.ref 54), some (.ref 14), some (.int (J x2)), some (.int (J x3)), none] [] (hs E (jm N)) res := by
  refine w125_11 ?_
  obtain ⟨q1, q2, H⟩ := H
  refine ⟨fun hc => ?_, fun hc => ?_⟩
  · replace H := H.1 ((le_J ((congrArg F143 rfl).trans (t143)) rfl q1 q2).mp hc)
    exact H.trans (rt_n rfl)
  · replace H := H.2 (fun hz => hc ((le_J ((congrArg F143 rfl).trans (t143)) rfl q1 q2).mpr hz))
    obtain ⟨q3, H⟩ := H
    refine ⟨Eq.mpr (congr (congrArg P145 rfl) rfl) (p145 q3), ?_⟩
    obtain ⟨q4, H⟩ := H
    refine ⟨fun hc => ?_, fun hc => ?_⟩
    · replace H := H.1 ((eq_J ((congr (congrArg F145 rfl) rfl).trans (t145 q3)) jl_0 q4 (by decide)).mp hc)
      exact Ev_to (clx (clx (cli rfl (cli (add_J rfl jl_1) (clx rfl))))) rfl rfl H
    · replace H := H.2 (fun hz => hc ((eq_J ((congr (congrArg F145 rfl) rfl).trans (t145 q3)) jl_0 q4 (by decide)).mpr hz))
      obtain ⟨q5, H⟩ := H
      refine ⟨fun hc => ?_, fun hc => ?_⟩
      · replace H := H.1 ((le_J jl_256 rfl (by decide) q5).mp hc)
        exact Ev_to (clx (clx (cli rfl (cli (add_J rfl jl_1) (clx rfl))))) rfl rfl H
      · replace H := H.2 (fun hz => hc ((le_J jl_256 rfl (by decide) q5).mpr hz))
        exact Ev_to (clx (clx (cli rfl (cli rfl (cli jl_0 rfl))))) rfl rfl H
theorem v125_37 {E : gw_N} {N : NM} {res : Option Value × gw_H} {x2 : Int} {x3 : Int} {x4 : Int} (H : ((R x2) ∧ ((R x4) ∧ ((x2 ≤ x4 → Ev 2 125 11 [some (.ref 54), some (.ref 14), some (.int (J (x2 * 2))), some (.int (J (x3 + 1))), none] [] (hs E (jm N)) res) ∧ (¬ x2 ≤ x4 → ((0 ≤ x4 ∧ x4 < 256) ∧ ((Q149 N x3) ∧ ((0 ≤ (x2 + x4) ∧ (x2 + x4) < 256) ∧ Ev 2 125 37 [some (.ref 54), some (.ref 14), some (.int (J x2)), some (.int (J x3)), some (.int (J (x4 + 1)))] [] (hs E (jm (upZ N 57 (updZ (N 57) (x2 + x4) (((N 57) x4) + (G149 N x3)))))) res)))))))) : Ev 2 125 37 [some (.ref 54), some (.ref 14), some (.int (J x2)), some (.int (J x3)), some (.int (J x4))] [] (hs E (jm N)) res := by
  refine w125_37 ?_
  obtain ⟨q1, q2, H⟩ := H
  refine ⟨fun hc => ?_, fun hc => ?_⟩
  · replace H := H.1 ((le_J rfl rfl q1 q2).mp hc)
    exact Ev_to (clx (clx (cli (mul_J rfl jl_2) (cli (add_J rfl jl_1) (clx rfl))))) rfl rfl H
  · replace H := H.2 (fun hz => hc ((le_J rfl rfl q1 q2).mpr hz))
    obtain ⟨q3, H⟩ := H
    refine ⟨inb_J rfl q3 (by decide), ?_⟩
    obtain ⟨q4, H⟩ := H
    refine ⟨Eq.mpr (congr (congrArg P149 rfl) rfl) (p149 q4), ?_⟩
    obtain ⟨q5, H⟩ := H
    refine ⟨inb_J (add_J rfl rfl) q5 (by decide), ?_⟩
    exact Ev_to (clx (clx (cli rfl (cli rfl (cli (add_J rfl jl_1) rfl))))) rfl (jm_up rfl (jf_upd (jf_base _ _) (add_J rfl rfl) q5 (by decide) (add_J (rd_J (jf_base _ _) rfl q3 (by decide)) ((congr (congrArg F149 rfl) rfl).trans (t149 q4))))) H
-- 127 GlassWires$Rods digestOn (J)J
theorem v127_0 {E : gw_N} {N : NM} {res : Option Value × gw_H} {x1 : Int64} (H : Ev 2 127 5 [some (.ref 54), none, none, some (.long x1), none, some (.int (J 0))] [] (hs E (jm N)) res) : Ev 2 127 0 [some (.ref 54), some (.long x1), none, none, none, none] [] (hs E (jm N)) res := by
  refine w127_0 ?_
  exact Ev_to (clx (clx (clx (cll rfl (clx (cli jl_0 rfl)))))) rfl rfl H
theorem v127_5 {E : gw_N} {N : NM} {res : Option Value × gw_H} {x3 : Int64} {x5 : Int} (H : ((R ((N 54) 4)) ∧ ((R x5) ∧ ((((N 54) 4) ≤ x5 → res = (some (.long x3), hs E (jm N))) ∧ (¬ ((N 54) 4) ≤ x5 → ((0 ≤ x5 ∧ x5 < 8) ∧ Ev 2 127 5 [some (.ref 54), none, none, some (.long (G207 N (G207 N x3 (Int32.toInt64 (J ((N 55) x5)))) (Int32.toInt64 (J ((N 56) x5))))), none, some (.int (J (x5 + 1)))] [] (hs E (jm N)) res)))))) : Ev 2 127 5 [some (.ref 54), none, none, some (.long x3), none, some (.int (J x5))] [] (hs E (jm N)) res := by
  refine w127_5 ?_
  obtain ⟨q1, q2, H⟩ := H
  refine ⟨fun hc => ?_, fun hc => ?_⟩
  · replace H := H.1 ((le_J (fld_J (jf_base _ _)) rfl q1 q2).mp hc)
    exact H.trans (rt_l rfl rfl)
  · replace H := H.2 (fun hz => hc ((le_J (fld_J (jf_base _ _)) rfl q1 q2).mpr hz))
    obtain ⟨q3, H⟩ := H
    refine ⟨inb_J rfl q3 (by decide), ?_⟩
    refine ⟨inb_J rfl q3 (by decide), ?_⟩
    exact Ev_to (clx (clx (clx (cll ((congr (congr (congrArg F207 rfl) ((congr (congr (congrArg F207 rfl) rfl) (congrArg Int32.toInt64 (rd_J (jf_base _ _) rfl q3 (by decide)))).trans (t207))) (congrArg Int32.toInt64 (rd_J (jf_base _ _) rfl q3 (by decide)))).trans (t207)) (clx (cli (add_J rfl jl_1) rfl)))))) rfl rfl H
-- 131 GlassWires$Tension pullOfBack (II)I
theorem v131_0 {E : gw_N} {N : NM} {res : Option Value × gw_H} {x1 : Int} {x2 : Int} (H : ((Q101 N x1) ∧ res = (some (.int (J (((G40 N) * x2) * (G101 N x1)))), hs E (jm N)))) : Ev 2 131 0 [some (.ref 53), some (.int (J x1)), some (.int (J x2))] [] (hs E (jm N)) res := by
  refine w131_0 ?_
  obtain ⟨q1, H⟩ := H
  refine ⟨Eq.mpr (congr (congrArg P101 rfl) rfl) (p101 q1), ?_⟩
  exact H.trans (rt_i (mul_J (mul_J ((congrArg F40 rfl).trans (t40)) rfl) ((congr (congrArg F101 rfl) rfl).trans (t101 q1))) rfl)
def G131 (N : NM) (x1 : Int) (x2 : Int) : Int := (((G40 N) * x2) * (G101 N x1))
def Q131 (N : NM) (x1 : Int) (x2 : Int) : Prop := ((Q101 N x1) ∧ True)
theorem t131 {N : NM} {x1 : Int} {x2 : Int} (H : Q131 N x1 x2) : F131 (jm N) (J x1) (J x2) = J (G131 N x1 x2) := by
  unfold Q131 at H
  unfold F131 G131
  obtain ⟨q1, H⟩ := H
  exact (mul_J (mul_J ((congrArg F40 rfl).trans (t40)) rfl) ((congr (congrArg F101 rfl) rfl).trans (t101 q1)))
theorem p131 {N : NM} {x1 : Int} {x2 : Int} (H : Q131 N x1 x2) : P131 (jm N) (J x1) (J x2) := by
  unfold Q131 at H
  unfold P131
  obtain ⟨q1, H⟩ := H
  exact Eq.mpr (congr (congrArg P101 rfl) rfl) (p101 q1)
theorem sz131 {E : gw_N} {N : NM} {x1 : Int} {x2 : Int} (H : Q131 N x1 x2) : Rn 131 [.ref 53, .int (J x1), .int (J x2)] (hs E (jm N)) (some (.int (J (G131 N x1 x2)))) (hs E (jm N)) := by
  have h := s131 (E := E) (M := jm N) (x1 := J x1) (x2 := J x2) (p131 H)
  rw [t131 H] at h
  exact h
-- 133 GlassWires$Tension bowBetween (II)I
theorem v133_0 {E : gw_N} {N : NM} {res : Option Value × gw_H} {x1 : Int} {x2 : Int} (H : ((R (G40 N)) ∧ (((G40 N) ≤ 0 → res = (some (.int (J 0)), hs E (jm N))) ∧ (¬ (G40 N) ≤ 0 → ((0 < (G40 N)) ∧ ((R (x1 - x2)) ∧ res = (some (.int (J (Int.tdiv (x1 - x2) (G40 N)))), hs E (jm N)))))))) : Ev 2 133 0 [some (.ref 53), some (.int (J x1)), some (.int (J x2)), none] [] (hs E (jm N)) res := by
  refine w133_0 ?_
  obtain ⟨q1, H⟩ := H
  refine ⟨fun hc => ?_, fun hc => ?_⟩
  · replace H := H.1 ((le_J ((congrArg F40 rfl).trans (t40)) jl_0 q1 (by decide)).mp hc)
    exact H.trans (rt_i jl_0 rfl)
  · replace H := H.2 (fun hz => hc ((le_J ((congrArg F40 rfl).trans (t40)) jl_0 q1 (by decide)).mpr hz))
    obtain ⟨q2, H⟩ := H
    refine ⟨nz_J ((congrArg F40 rfl).trans (t40)) q1 q2, ?_⟩
    obtain ⟨q3, H⟩ := H
    exact H.trans (rt_i (div_J (sub_J rfl rfl) ((congrArg F40 rfl).trans (t40)) q3 q1 q2) rfl)
def G133 (N : NM) (x1 : Int) (x2 : Int) : Int := (if (G40 N) ≤ 0 then 0 else (Int.tdiv (x1 - x2) (G40 N)))
def Q133 (N : NM) (x1 : Int) (x2 : Int) : Prop := ((R (G40 N)) ∧ (((G40 N) ≤ 0 → True) ∧ (¬ (G40 N) ≤ 0 → ((0 < (G40 N)) ∧ ((R (x1 - x2)) ∧ True)))))
theorem t133 {N : NM} {x1 : Int} {x2 : Int} (H : Q133 N x1 x2) : F133 (jm N) (J x1) (J x2) = J (G133 N x1 x2) := by
  unfold Q133 at H
  unfold F133 G133
  obtain ⟨q1, H⟩ := H
  refine ite_J (le_J ((congrArg F40 rfl).trans (t40)) jl_0 q1 (by decide)) (fun hc => ?_) (fun hc => ?_)
  · replace H := H.1 ((le_J ((congrArg F40 rfl).trans (t40)) jl_0 q1 (by decide)).mp hc)
    exact jl_0
  · replace H := H.2 (fun hz => hc ((le_J ((congrArg F40 rfl).trans (t40)) jl_0 q1 (by decide)).mpr hz))
    obtain ⟨q2, H⟩ := H
    obtain ⟨q3, H⟩ := H
    exact (div_J (sub_J rfl rfl) ((congrArg F40 rfl).trans (t40)) q3 q1 q2)
theorem p133 {N : NM} {x1 : Int} {x2 : Int} (H : Q133 N x1 x2) : P133 (jm N) (J x1) (J x2) := by
  unfold Q133 at H
  unfold P133
  obtain ⟨q1, H⟩ := H
  refine ⟨fun hc => ?_, fun hc => ?_⟩
  · replace H := H.1 ((le_J ((congrArg F40 rfl).trans (t40)) jl_0 q1 (by decide)).mp hc)
    trivial
  · replace H := H.2 (fun hz => hc ((le_J ((congrArg F40 rfl).trans (t40)) jl_0 q1 (by decide)).mpr hz))
    obtain ⟨q2, H⟩ := H
    exact nz_J ((congrArg F40 rfl).trans (t40)) q1 q2
theorem sz133 {E : gw_N} {N : NM} {x1 : Int} {x2 : Int} (H : Q133 N x1 x2) : Rn 133 [.ref 53, .int (J x1), .int (J x2)] (hs E (jm N)) (some (.int (J (G133 N x1 x2)))) (hs E (jm N)) := by
  have h := s133 (E := E) (M := jm N) (x1 := J x1) (x2 := J x2) (p133 H)
  rw [t133 H] at h
  exact h
-- 140 GlassWires$Tension digestOn (J)J
theorem v140_0 {E : gw_N} {N : NM} {res : Option Value × gw_H} {x1 : Int64} (H : res = (some (.long (G207 N (G207 N x1 (Int32.toInt64 (J ((N 53) 3)))) (Int32.toInt64 (J ((N 53) 4))))), hs E (jm N))) : Ev 2 140 0 [some (.ref 53), some (.long x1), none] [] (hs E (jm N)) res := by
  refine w140_0 ?_
  exact H.trans (rt_l ((congr (congr (congrArg F207 rfl) ((congr (congr (congrArg F207 rfl) rfl) (congrArg Int32.toInt64 (fld_J (jf_base _ _)))).trans (t207))) (congrArg Int32.toInt64 (fld_J (jf_base _ _)))).trans (t207)) rfl)
def G140 (N : NM) (x1 : Int64) : Int64 := (G207 N (G207 N x1 (Int32.toInt64 (J ((N 53) 3)))) (Int32.toInt64 (J ((N 53) 4))))
theorem t140 {N : NM} {x1 : Int64} : F140 (jm N) x1 = G140 N x1 := by
  have H : True := trivial
  unfold F140 G140
  exact ((congr (congr (congrArg F207 rfl) ((congr (congr (congrArg F207 rfl) rfl) (congrArg Int32.toInt64 (fld_J (jf_base _ _)))).trans (t207))) (congrArg Int32.toInt64 (fld_J (jf_base _ _)))).trans (t207))
theorem sz140 {E : gw_N} {N : NM} {x1 : Int64} : Rn 140 [.ref 53, .long x1] (hs E (jm N)) (some (.long (G140 N x1))) (hs E (jm N)) := by
  have h := s140 (E := E) (M := jm N) (x1 := x1)
  rw [t140] at h
  exact h
-- 155 GlassWires$Wires laidOnes ()I
theorem v155_0 {E : gw_N} {N : NM} {res : Option Value × gw_H}  (H : Ev 2 155 4 [some (.ref 14), some (.int (J 0)), some (.int (J 0))] [] (hs E (jm N)) res) : Ev 2 155 0 [some (.ref 14), none, none] [] (hs E (jm N)) res := by
  refine w155_0 ?_
  exact Ev_to (clx (cli jl_0 (cli jl_0 rfl))) rfl rfl H
theorem v155_4 {E : gw_N} {N : NM} {res : Option Value × gw_H} {x1 : Int} {x2 : Int} (H : ((R ((N 14) 7)) ∧ ((R x2) ∧ ((((N 14) 7) ≤ x2 → res = (some (.int (J x1)), hs E (jm N))) ∧ (¬ ((N 14) 7) ≤ x2 → ((0 ≤ x2 ∧ x2 < 30) ∧ ((Q206 N ((N 15) x2)) ∧ Ev 2 155 4 [some (.ref 14), some (.int (J (x1 + (G206 N ((N 15) x2))))), some (.int (J (x2 + 1)))] [] (hs E (jm N)) res))))))) : Ev 2 155 4 [some (.ref 14), some (.int (J x1)), some (.int (J x2))] [] (hs E (jm N)) res := by
  refine w155_4 ?_
  obtain ⟨q1, q2, H⟩ := H
  refine ⟨fun hc => ?_, fun hc => ?_⟩
  · replace H := H.1 ((le_J (fld_J (jf_base _ _)) rfl q1 q2).mp hc)
    exact H.trans (rt_i rfl rfl)
  · replace H := H.2 (fun hz => hc ((le_J (fld_J (jf_base _ _)) rfl q1 q2).mpr hz))
    obtain ⟨q3, H⟩ := H
    refine ⟨inb_J rfl q3 (by decide), ?_⟩
    obtain ⟨q4, H⟩ := H
    exact Ev_to (clx (cli (add_J rfl ((congr (congrArg F206 rfl) (rd_J (jf_base _ _) rfl q3 (by decide))).trans (t206 q4))) (cli (add_J rfl jl_1) rfl))) rfl rfl H
-- 158 GlassWires$Wires wentAlong (III)Z
theorem v158_0 {E : gw_N} {N : NM} {res : Option Value × gw_H} {x1 : Int} {x2 : Int} {x3 : Int} (H : Ev 2 158 3 [some (.ref 14), some (.int (J x1)), some (.int (J x2)), some (.int (J x3)), some (.int (J 0))] [] (hs E (jm N)) res) : Ev 2 158 0 [some (.ref 14), some (.int (J x1)), some (.int (J x2)), some (.int (J x3)), none] [] (hs E (jm N)) res := by
  refine w158_0 ?_
  exact Ev_to (clx (cli rfl (cli rfl (cli rfl (cli jl_0 rfl))))) rfl rfl H
theorem v158_3 {E : gw_N} {N : NM} {res : Option Value × gw_H} {x1 : Int} {x2 : Int} {x3 : Int} {x4 : Int} (H : ((R x2) ∧ ((R x4) ∧ ((x2 ≤ x4 → res = (some (.int (J 0)), hs E (jm N))) ∧ (¬ x2 ≤ x4 → ((Q154 N x1 x4) ∧ ((R (G154 N x1 x4)) ∧ ((R x3) ∧ (((G154 N x1 x4) = x3 → res = (some (.int (J 1)), hs E (jm N))) ∧ (¬ (G154 N x1 x4) = x3 → Ev 2 158 3 [some (.ref 14), some (.int (J x1)), some (.int (J x2)), some (.int (J x3)), some (.int (J (x4 + 1)))] [] (hs E (jm N)) res)))))))))) : Ev 2 158 3 [some (.ref 14), some (.int (J x1)), some (.int (J x2)), some (.int (J x3)), some (.int (J x4))] [] (hs E (jm N)) res := by
  refine w158_3 ?_
  obtain ⟨q1, q2, H⟩ := H
  refine ⟨fun hc => ?_, fun hc => ?_⟩
  · replace H := H.1 ((le_J rfl rfl q1 q2).mp hc)
    exact H.trans (rt_i jl_0 rfl)
  · replace H := H.2 (fun hz => hc ((le_J rfl rfl q1 q2).mpr hz))
    obtain ⟨q3, H⟩ := H
    refine ⟨Eq.mpr (congr (congr (congrArg P154 rfl) rfl) rfl) (p154 q3), ?_⟩
    obtain ⟨q4, q5, H⟩ := H
    refine ⟨fun hc => ?_, fun hc => ?_⟩
    · replace H := H.1 ((eq_J ((congr (congr (congrArg F154 rfl) rfl) rfl).trans (t154 q3)) rfl q4 q5).mp hc)
      exact H.trans (rt_i jl_1 rfl)
    · replace H := H.2 (fun hz => hc ((eq_J ((congr (congr (congrArg F154 rfl) rfl) rfl).trans (t154 q3)) rfl q4 q5).mpr hz))
      exact Ev_to (clx (cli rfl (cli rfl (cli rfl (cli (add_J rfl jl_1) rfl))))) rfl rfl H
-- 159 GlassWires$Wires digestOn (J)J
theorem v159_0 {E : gw_N} {N : NM} {res : Option Value × gw_H} {x1 : Int64} (H : Ev 2 159 5 [some (.ref 14), none, none, some (.long x1), none, some (.int (J 0)), none] [] (hs E (jm N)) res) : Ev 2 159 0 [some (.ref 14), some (.long x1), none, none, none, none, none] [] (hs E (jm N)) res := by
  refine w159_0 ?_
  exact Ev_to (clx (clx (clx (cll rfl (clx (cli jl_0 (clx rfl))))))) rfl rfl H
theorem v159_5 {E : gw_N} {N : NM} {res : Option Value × gw_H} {x3 : Int64} {x5 : Int} (H : ((R ((N 14) 7)) ∧ ((R x5) ∧ ((((N 14) 7) ≤ x5 → res = (some (.long x3), hs E (jm N))) ∧ (¬ ((N 14) 7) ≤ x5 → ((0 ≤ x5 ∧ x5 < 30) ∧ ((Q206 N ((N 15) x5)) ∧ ((Q206 N ((N 16) x5)) ∧ Ev 2 159 47 [some (.ref 14), none, none, some (.long (G207 N (G207 N x3 (Int32.toInt64 (J (G206 N ((N 15) x5))))) (Int32.toInt64 (J (G206 N ((N 16) x5)))))), none, some (.int (J x5)), some (.int (J 0))] [] (hs E (jm N)) res)))))))) : Ev 2 159 5 [some (.ref 14), none, none, some (.long x3), none, some (.int (J x5)), none] [] (hs E (jm N)) res := by
  refine w159_5 ?_
  obtain ⟨q1, q2, H⟩ := H
  refine ⟨fun hc => ?_, fun hc => ?_⟩
  · replace H := H.1 ((le_J (fld_J (jf_base _ _)) rfl q1 q2).mp hc)
    exact H.trans (rt_l rfl rfl)
  · replace H := H.2 (fun hz => hc ((le_J (fld_J (jf_base _ _)) rfl q1 q2).mpr hz))
    obtain ⟨q3, H⟩ := H
    refine ⟨inb_J rfl q3 (by decide), ?_⟩
    obtain ⟨q4, H⟩ := H
    refine ⟨inb_J rfl q3 (by decide), ?_⟩
    obtain ⟨q5, H⟩ := H
    exact Ev_to (clx (clx (clx (cll ((congr (congr (congrArg F207 rfl) ((congr (congr (congrArg F207 rfl) rfl) (congrArg Int32.toInt64 ((congr (congrArg F206 rfl) (rd_J (jf_base _ _) rfl q3 (by decide))).trans (t206 q4)))).trans (t207))) (congrArg Int32.toInt64 ((congr (congrArg F206 rfl) (rd_J (jf_base _ _) rfl q3 (by decide))).trans (t206 q5)))).trans (t207)) (clx (cli rfl (cli jl_0 rfl))))))) rfl rfl H
theorem v159_47 {E : gw_N} {N : NM} {res : Option Value × gw_H} {x3 : Int64} {x5 : Int} {x6 : Int} (H : ((0 ≤ x5 ∧ x5 < 30) ∧ ((R ((N 17) x5)) ∧ ((R x6) ∧ ((((N 17) x5) < x6 → Ev 2 159 5 [some (.ref 14), none, none, some (.long x3), none, some (.int (J (x5 + 1))), none] [] (hs E (jm N)) res) ∧ (¬ ((N 17) x5) < x6 → ((Q153 N x5 x6) ∧ Ev 2 159 47 [some (.ref 14), none, none, some (.long (G207 N x3 (Int32.toInt64 (J (G153 N x5 x6))))), none, some (.int (J x5)), some (.int (J (x6 + 1)))] [] (hs E (jm N)) res))))))) : Ev 2 159 47 [some (.ref 14), none, none, some (.long x3), none, some (.int (J x5)), some (.int (J x6))] [] (hs E (jm N)) res := by
  refine w159_47 ?_
  obtain ⟨q1, H⟩ := H
  refine ⟨inb_J rfl q1 (by decide), ?_⟩
  obtain ⟨q2, q3, H⟩ := H
  refine ⟨fun hc => ?_, fun hc => ?_⟩
  · replace H := H.1 ((lt_J (rd_J (jf_base _ _) rfl q1 (by decide)) rfl q2 q3).mp hc)
    exact Ev_to (clx (clx (clx (cll rfl (clx (cli (add_J rfl jl_1) (clx rfl))))))) rfl rfl H
  · replace H := H.2 (fun hz => hc ((lt_J (rd_J (jf_base _ _) rfl q1 (by decide)) rfl q2 q3).mpr hz))
    obtain ⟨q4, H⟩ := H
    refine ⟨Eq.mpr (congr (congr (congrArg P153 rfl) rfl) rfl) (p153 q4), ?_⟩
    exact Ev_to (clx (clx (clx (cll ((congr (congr (congrArg F207 rfl) rfl) (congrArg Int32.toInt64 ((congr (congr (congrArg F153 rfl) rfl) rfl).trans (t153 q4)))).trans (t207)) (clx (cli rfl (cli (add_J rfl jl_1) rfl))))))) rfl rfl H
-- 163 GlassWires blank ()I
theorem v163_0 {E : gw_N} {N : NM} {res : Option Value × gw_H}  (H : (∃ (r1 : Int) (N1 : NM), Rn 79 [.ref 12] (hs E (jm N)) (some (.int (J r1))) (hs E (jm N1)) ∧ res = (some (.int (J r1)), hs E (jm N1)))) : Ev 2 163 0 [some (.ref 8)] [] (hs E (jm N)) res := by
  refine w163_0 ?_
  obtain ⟨r1, N1, q1, H⟩ := H
  refine ⟨J r1, jm N1, Rn_to (clx rfl) rfl rfl q1, ?_⟩
  exact H.trans (rt_i rfl rfl)
-- 169 GlassWires point (II)I
theorem v169_0 {E : gw_N} {N : NM} {res : Option Value × gw_H} {x1 : Int} {x2 : Int} (H : ((Q144 N x1) ∧ ((R (G144 N x1)) ∧ (((G144 N x1) = 0 → res = (some (.int (J (-101))), hs E (jm N))) ∧ (¬ (G144 N x1) = 0 → ((R x2) ∧ ((x2 < 0 → res = (some (.int (J (-1))), hs E (jm N))) ∧ (¬ x2 < 0 → ((Q149 N x1) ∧ ((R (G149 N x1)) ∧ (((G149 N x1) < x2 → res = (some (.int (J (-1))), hs E (jm N))) ∧ (¬ (G149 N x1) < x2 → ((Q153 N x1 x2) ∧ res = (some (.int (J (G153 N x1 x2))), hs E (jm N))))))))))))))) : Ev 2 169 0 [some (.ref 8), some (.int (J x1)), some (.int (J x2))] [] (hs E (jm N)) res := by
  refine w169_0 ?_
  obtain ⟨q1, H⟩ := H
  obtain ⟨q2, H⟩ := H
  refine ⟨fun hc => ?_, fun hc => ?_⟩
  · replace H := H.1 ((eq_J ((congr (congrArg F144 rfl) rfl).trans (t144 q1)) jl_0 q2 (by decide)).mp hc)
    exact H.trans (rt_i jl_m101 rfl)
  · replace H := H.2 (fun hz => hc ((eq_J ((congr (congrArg F144 rfl) rfl).trans (t144 q1)) jl_0 q2 (by decide)).mpr hz))
    obtain ⟨q3, H⟩ := H
    refine ⟨fun hc => ?_, fun hc => ?_⟩
    · replace H := H.1 ((lt_J rfl jl_0 q3 (by decide)).mp hc)
      exact H.trans (rt_i jl_m1 rfl)
    · replace H := H.2 (fun hz => hc ((lt_J rfl jl_0 q3 (by decide)).mpr hz))
      obtain ⟨q4, H⟩ := H
      refine ⟨Eq.mpr (congr (congrArg P149 rfl) rfl) (p149 q4), ?_⟩
      obtain ⟨q5, H⟩ := H
      refine ⟨fun hc => ?_, fun hc => ?_⟩
      · replace H := H.1 ((lt_J ((congr (congrArg F149 rfl) rfl).trans (t149 q4)) rfl q5 q3).mp hc)
        exact H.trans (rt_i jl_m1 rfl)
      · replace H := H.2 (fun hz => hc ((lt_J ((congr (congrArg F149 rfl) rfl).trans (t149 q4)) rfl q5 q3).mpr hz))
        obtain ⟨q6, H⟩ := H
        refine ⟨Eq.mpr (congr (congr (congrArg P153 rfl) rfl) rfl) (p153 q6), ?_⟩
        exact H.trans (rt_i ((congr (congr (congrArg F153 rfl) rfl) rfl).trans (t153 q6)) rfl)
def G169 (N : NM) (x1 : Int) (x2 : Int) : Int := (if (G144 N x1) = 0 then (-101) else (if x2 < 0 then (-1) else (if (G149 N x1) < x2 then (-1) else (G153 N x1 x2))))
def Q169 (N : NM) (x1 : Int) (x2 : Int) : Prop := ((Q144 N x1) ∧ ((R (G144 N x1)) ∧ (((G144 N x1) = 0 → True) ∧ (¬ (G144 N x1) = 0 → ((R x2) ∧ ((x2 < 0 → True) ∧ (¬ x2 < 0 → ((Q149 N x1) ∧ ((R (G149 N x1)) ∧ (((G149 N x1) < x2 → True) ∧ (¬ (G149 N x1) < x2 → ((Q153 N x1 x2) ∧ True))))))))))))
theorem t169 {N : NM} {x1 : Int} {x2 : Int} (H : Q169 N x1 x2) : F169 (jm N) (J x1) (J x2) = J (G169 N x1 x2) := by
  unfold Q169 at H
  unfold F169 G169
  obtain ⟨q1, H⟩ := H
  obtain ⟨q2, H⟩ := H
  refine ite_J (eq_J ((congr (congrArg F144 rfl) rfl).trans (t144 q1)) jl_0 q2 (by decide)) (fun hc => ?_) (fun hc => ?_)
  · replace H := H.1 ((eq_J ((congr (congrArg F144 rfl) rfl).trans (t144 q1)) jl_0 q2 (by decide)).mp hc)
    exact jl_m101
  · replace H := H.2 (fun hz => hc ((eq_J ((congr (congrArg F144 rfl) rfl).trans (t144 q1)) jl_0 q2 (by decide)).mpr hz))
    obtain ⟨q3, H⟩ := H
    refine ite_J (lt_J rfl jl_0 q3 (by decide)) (fun hc => ?_) (fun hc => ?_)
    · replace H := H.1 ((lt_J rfl jl_0 q3 (by decide)).mp hc)
      exact jl_m1
    · replace H := H.2 (fun hz => hc ((lt_J rfl jl_0 q3 (by decide)).mpr hz))
      obtain ⟨q4, H⟩ := H
      obtain ⟨q5, H⟩ := H
      refine ite_J (lt_J ((congr (congrArg F149 rfl) rfl).trans (t149 q4)) rfl q5 q3) (fun hc => ?_) (fun hc => ?_)
      · replace H := H.1 ((lt_J ((congr (congrArg F149 rfl) rfl).trans (t149 q4)) rfl q5 q3).mp hc)
        exact jl_m1
      · replace H := H.2 (fun hz => hc ((lt_J ((congr (congrArg F149 rfl) rfl).trans (t149 q4)) rfl q5 q3).mpr hz))
        obtain ⟨q6, H⟩ := H
        exact ((congr (congr (congrArg F153 rfl) rfl) rfl).trans (t153 q6))
theorem p169 {N : NM} {x1 : Int} {x2 : Int} (H : Q169 N x1 x2) : P169 (jm N) (J x1) (J x2) := by
  unfold Q169 at H
  unfold P169
  obtain ⟨q1, H⟩ := H
  obtain ⟨q2, H⟩ := H
  refine ⟨fun hc => ?_, fun hc => ?_⟩
  · replace H := H.1 ((eq_J ((congr (congrArg F144 rfl) rfl).trans (t144 q1)) jl_0 q2 (by decide)).mp hc)
    trivial
  · replace H := H.2 (fun hz => hc ((eq_J ((congr (congrArg F144 rfl) rfl).trans (t144 q1)) jl_0 q2 (by decide)).mpr hz))
    obtain ⟨q3, H⟩ := H
    refine ⟨fun hc => ?_, fun hc => ?_⟩
    · replace H := H.1 ((lt_J rfl jl_0 q3 (by decide)).mp hc)
      trivial
    · replace H := H.2 (fun hz => hc ((lt_J rfl jl_0 q3 (by decide)).mpr hz))
      obtain ⟨q4, H⟩ := H
      refine ⟨Eq.mpr (congr (congrArg P149 rfl) rfl) (p149 q4), ?_⟩
      obtain ⟨q5, H⟩ := H
      refine ⟨fun hc => ?_, fun hc => ?_⟩
      · replace H := H.1 ((lt_J ((congr (congrArg F149 rfl) rfl).trans (t149 q4)) rfl q5 q3).mp hc)
        trivial
      · replace H := H.2 (fun hz => hc ((lt_J ((congr (congrArg F149 rfl) rfl).trans (t149 q4)) rfl q5 q3).mpr hz))
        obtain ⟨q6, H⟩ := H
        exact Eq.mpr (congr (congr (congrArg P153 rfl) rfl) rfl) (p153 q6)
theorem sz169 {E : gw_N} {N : NM} {x1 : Int} {x2 : Int} (H : Q169 N x1 x2) : Rn 169 [.ref 8, .int (J x1), .int (J x2)] (hs E (jm N)) (some (.int (J (G169 N x1 x2)))) (hs E (jm N)) := by
  have h := s169 (E := E) (M := jm N) (x1 := J x1) (x2 := J x2) (p169 H)
  rw [t169 H] at h
  exact h
-- 173 GlassWires cell (II)I
theorem v173_0 {E : gw_N} {N : NM} {res : Option Value × gw_H} {x1 : Int} {x2 : Int} (H : ((Q43 N x1 x2) ∧ ((R (G43 N x1 x2)) ∧ (((G43 N x1 x2) = 0 → res = (some (.int (J (-101))), hs E (jm N))) ∧ (¬ (G43 N x1 x2) = 0 → ((Q4 N (G45 N x1 x2)) ∧ res = (some (.int (J (G4 N (G45 N x1 x2)))), hs E (jm N)))))))) : Ev 2 173 0 [some (.ref 8), some (.int (J x1)), some (.int (J x2))] [] (hs E (jm N)) res := by
  refine w173_0 ?_
  obtain ⟨q1, H⟩ := H
  obtain ⟨q2, H⟩ := H
  refine ⟨fun hc => ?_, fun hc => ?_⟩
  · replace H := H.1 ((eq_J ((congr (congr (congrArg F43 rfl) rfl) rfl).trans (t43 q1)) jl_0 q2 (by decide)).mp hc)
    exact H.trans (rt_i jl_m101 rfl)
  · replace H := H.2 (fun hz => hc ((eq_J ((congr (congr (congrArg F43 rfl) rfl) rfl).trans (t43 q1)) jl_0 q2 (by decide)).mpr hz))
    obtain ⟨q3, H⟩ := H
    refine ⟨Eq.mpr (congr (congrArg P4 rfl) ((congr (congr (congrArg F45 rfl) rfl) rfl).trans (t45))) (p4 q3), ?_⟩
    exact H.trans (rt_i ((congr (congrArg F4 rfl) ((congr (congr (congrArg F45 rfl) rfl) rfl).trans (t45))).trans (t4 q3)) rfl)
def G173 (N : NM) (x1 : Int) (x2 : Int) : Int := (if (G43 N x1 x2) = 0 then (-101) else (G4 N (G45 N x1 x2)))
def Q173 (N : NM) (x1 : Int) (x2 : Int) : Prop := ((Q43 N x1 x2) ∧ ((R (G43 N x1 x2)) ∧ (((G43 N x1 x2) = 0 → True) ∧ (¬ (G43 N x1 x2) = 0 → ((Q4 N (G45 N x1 x2)) ∧ True)))))
theorem t173 {N : NM} {x1 : Int} {x2 : Int} (H : Q173 N x1 x2) : F173 (jm N) (J x1) (J x2) = J (G173 N x1 x2) := by
  unfold Q173 at H
  unfold F173 G173
  obtain ⟨q1, H⟩ := H
  obtain ⟨q2, H⟩ := H
  refine ite_J (eq_J ((congr (congr (congrArg F43 rfl) rfl) rfl).trans (t43 q1)) jl_0 q2 (by decide)) (fun hc => ?_) (fun hc => ?_)
  · replace H := H.1 ((eq_J ((congr (congr (congrArg F43 rfl) rfl) rfl).trans (t43 q1)) jl_0 q2 (by decide)).mp hc)
    exact jl_m101
  · replace H := H.2 (fun hz => hc ((eq_J ((congr (congr (congrArg F43 rfl) rfl) rfl).trans (t43 q1)) jl_0 q2 (by decide)).mpr hz))
    obtain ⟨q3, H⟩ := H
    exact ((congr (congrArg F4 rfl) ((congr (congr (congrArg F45 rfl) rfl) rfl).trans (t45))).trans (t4 q3))
theorem p173 {N : NM} {x1 : Int} {x2 : Int} (H : Q173 N x1 x2) : P173 (jm N) (J x1) (J x2) := by
  unfold Q173 at H
  unfold P173
  obtain ⟨q1, H⟩ := H
  obtain ⟨q2, H⟩ := H
  refine ⟨fun hc => ?_, fun hc => ?_⟩
  · replace H := H.1 ((eq_J ((congr (congr (congrArg F43 rfl) rfl) rfl).trans (t43 q1)) jl_0 q2 (by decide)).mp hc)
    trivial
  · replace H := H.2 (fun hz => hc ((eq_J ((congr (congr (congrArg F43 rfl) rfl) rfl).trans (t43 q1)) jl_0 q2 (by decide)).mpr hz))
    obtain ⟨q3, H⟩ := H
    exact Eq.mpr (congr (congrArg P4 rfl) ((congr (congr (congrArg F45 rfl) rfl) rfl).trans (t45))) (p4 q3)
theorem sz173 {E : gw_N} {N : NM} {x1 : Int} {x2 : Int} (H : Q173 N x1 x2) : Rn 173 [.ref 8, .int (J x1), .int (J x2)] (hs E (jm N)) (some (.int (J (G173 N x1 x2)))) (hs E (jm N)) := by
  have h := s173 (E := E) (M := jm N) (x1 := J x1) (x2 := J x2) (p173 H)
  rw [t173 H] at h
  exact h
-- 174 GlassWires size (I)I
theorem v174_0 {E : gw_N} {N : NM} {res : Option Value × gw_H} {x1 : Int} (H : ((Q5 N x1) ∧ ((R (G5 N x1)) ∧ (((G5 N x1) = 0 → res = (some (.int (J (-101))), hs E (jm N))) ∧ (¬ (G5 N x1) = 0 → ((Q6 N x1) ∧ res = (some (.int (J (G6 N x1))), hs E (jm N)))))))) : Ev 2 174 0 [some (.ref 8), some (.int (J x1))] [] (hs E (jm N)) res := by
  refine w174_0 ?_
  obtain ⟨q1, H⟩ := H
  refine ⟨Eq.mpr (congr (congrArg P5 rfl) rfl) (p5 q1), ?_⟩
  obtain ⟨q2, H⟩ := H
  refine ⟨fun hc => ?_, fun hc => ?_⟩
  · replace H := H.1 ((eq_J ((congr (congrArg F5 rfl) rfl).trans (t5 q1)) jl_0 q2 (by decide)).mp hc)
    exact H.trans (rt_i jl_m101 rfl)
  · replace H := H.2 (fun hz => hc ((eq_J ((congr (congrArg F5 rfl) rfl).trans (t5 q1)) jl_0 q2 (by decide)).mpr hz))
    obtain ⟨q3, H⟩ := H
    refine ⟨Eq.mpr (congr (congrArg P6 rfl) rfl) (p6 q3), ?_⟩
    exact H.trans (rt_i ((congr (congrArg F6 rfl) rfl).trans (t6 q3)) rfl)
def G174 (N : NM) (x1 : Int) : Int := (if (G5 N x1) = 0 then (-101) else (G6 N x1))
def Q174 (N : NM) (x1 : Int) : Prop := ((Q5 N x1) ∧ ((R (G5 N x1)) ∧ (((G5 N x1) = 0 → True) ∧ (¬ (G5 N x1) = 0 → ((Q6 N x1) ∧ True)))))
theorem t174 {N : NM} {x1 : Int} (H : Q174 N x1) : F174 (jm N) (J x1) = J (G174 N x1) := by
  unfold Q174 at H
  unfold F174 G174
  obtain ⟨q1, H⟩ := H
  obtain ⟨q2, H⟩ := H
  refine ite_J (eq_J ((congr (congrArg F5 rfl) rfl).trans (t5 q1)) jl_0 q2 (by decide)) (fun hc => ?_) (fun hc => ?_)
  · replace H := H.1 ((eq_J ((congr (congrArg F5 rfl) rfl).trans (t5 q1)) jl_0 q2 (by decide)).mp hc)
    exact jl_m101
  · replace H := H.2 (fun hz => hc ((eq_J ((congr (congrArg F5 rfl) rfl).trans (t5 q1)) jl_0 q2 (by decide)).mpr hz))
    obtain ⟨q3, H⟩ := H
    exact ((congr (congrArg F6 rfl) rfl).trans (t6 q3))
theorem p174 {N : NM} {x1 : Int} (H : Q174 N x1) : P174 (jm N) (J x1) := by
  unfold Q174 at H
  unfold P174
  obtain ⟨q1, H⟩ := H
  refine ⟨Eq.mpr (congr (congrArg P5 rfl) rfl) (p5 q1), ?_⟩
  obtain ⟨q2, H⟩ := H
  refine ⟨fun hc => ?_, fun hc => ?_⟩
  · replace H := H.1 ((eq_J ((congr (congrArg F5 rfl) rfl).trans (t5 q1)) jl_0 q2 (by decide)).mp hc)
    trivial
  · replace H := H.2 (fun hz => hc ((eq_J ((congr (congrArg F5 rfl) rfl).trans (t5 q1)) jl_0 q2 (by decide)).mpr hz))
    obtain ⟨q3, H⟩ := H
    exact Eq.mpr (congr (congrArg P6 rfl) rfl) (p6 q3)
theorem sz174 {E : gw_N} {N : NM} {x1 : Int} (H : Q174 N x1) : Rn 174 [.ref 8, .int (J x1)] (hs E (jm N)) (some (.int (J (G174 N x1)))) (hs E (jm N)) := by
  have h := s174 (E := E) (M := jm N) (x1 := J x1) (p174 H)
  rw [t174 H] at h
  exact h
-- 177 GlassWires colour (III)I
theorem v177_0 {E : gw_N} {N : NM} {res : Option Value × gw_H} {x1 : Int} {x2 : Int} {x3 : Int} (H : ((Q94 N x1) ∧ ((R (G94 N x1)) ∧ (((G94 N x1) = 0 → res = (some (.int (J (-101))), hs E (jm N))) ∧ (¬ (G94 N x1) = 0 → ((Q95 N x2) ∧ ((R (G95 N x2)) ∧ (((G95 N x2) = 0 → res = (some (.int (J (-101))), hs E (jm N))) ∧ (¬ (G95 N x2) = 0 → (∃ (r1 : Int) (N1 : NM), Rn 97 [.ref 40, .int (J x1), .int (J x2), .int (J x3)] (hs E (jm N)) (some (.int (J r1))) (hs E (jm N1)) ∧ res = (some (.int (J r1)), hs E (jm N1)))))))))))) : Ev 2 177 0 [some (.ref 8), some (.int (J x1)), some (.int (J x2)), some (.int (J x3))] [] (hs E (jm N)) res := by
  refine w177_0 ?_
  obtain ⟨q1, H⟩ := H
  obtain ⟨q2, H⟩ := H
  refine ⟨fun hc => ?_, fun hc => ?_⟩
  · replace H := H.1 ((eq_J ((congr (congrArg F94 rfl) rfl).trans (t94 q1)) jl_0 q2 (by decide)).mp hc)
    exact H.trans (rt_i jl_m101 rfl)
  · replace H := H.2 (fun hz => hc ((eq_J ((congr (congrArg F94 rfl) rfl).trans (t94 q1)) jl_0 q2 (by decide)).mpr hz))
    obtain ⟨q3, H⟩ := H
    obtain ⟨q4, H⟩ := H
    refine ⟨fun hc => ?_, fun hc => ?_⟩
    · replace H := H.1 ((eq_J ((congr (congrArg F95 rfl) rfl).trans (t95 q3)) jl_0 q4 (by decide)).mp hc)
      exact H.trans (rt_i jl_m101 rfl)
    · replace H := H.2 (fun hz => hc ((eq_J ((congr (congrArg F95 rfl) rfl).trans (t95 q3)) jl_0 q4 (by decide)).mpr hz))
      obtain ⟨r1, N1, q5, H⟩ := H
      refine ⟨J r1, jm N1, Rn_to (clx (cai rfl (cai rfl (cai rfl rfl)))) rfl rfl q5, ?_⟩
      exact H.trans (rt_i rfl rfl)
-- 178 GlassWires foes (IIZ)I
theorem v178_0 {E : gw_N} {N : NM} {res : Option Value × gw_H} {x1 : Int} {x2 : Int} {x3 : Int} (H : ((Q94 N x1) ∧ ((R (G94 N x1)) ∧ (((G94 N x1) = 0 → res = (some (.int (J (-101))), hs E (jm N))) ∧ (¬ (G94 N x1) = 0 → ((Q94 N x2) ∧ ((R (G94 N x2)) ∧ (((G94 N x2) = 0 → res = (some (.int (J (-101))), hs E (jm N))) ∧ (¬ (G94 N x2) = 0 → ((R x1) ∧ ((R x2) ∧ ((x1 = x2 → res = (some (.int (J (-102))), hs E (jm N))) ∧ (¬ x1 = x2 → ((Q106 N x1 x2) ∧ ((Q206 N (G106 N x1 x2)) ∧ (∃ (N1 : NM), Rn 107 [.ref 40, .int (J x1), .int (J x2), .int (J x3)] (hs E (jm N)) none (hs E (jm N1)) ∧ res = (some (.int (J (G206 N (G106 N x1 x2)))), hs E (jm N1)))))))))))))))))) : Ev 2 178 0 [some (.ref 8), some (.int (J x1)), some (.int (J x2)), some (.int (J x3)), none] [] (hs E (jm N)) res := by
  refine w178_0 ?_
  obtain ⟨q1, H⟩ := H
  obtain ⟨q2, H⟩ := H
  refine ⟨fun hc => ?_, fun hc => ?_⟩
  · replace H := H.1 ((eq_J ((congr (congrArg F94 rfl) rfl).trans (t94 q1)) jl_0 q2 (by decide)).mp hc)
    exact H.trans (rt_i jl_m101 rfl)
  · replace H := H.2 (fun hz => hc ((eq_J ((congr (congrArg F94 rfl) rfl).trans (t94 q1)) jl_0 q2 (by decide)).mpr hz))
    obtain ⟨q3, H⟩ := H
    obtain ⟨q4, H⟩ := H
    refine ⟨fun hc => ?_, fun hc => ?_⟩
    · replace H := H.1 ((eq_J ((congr (congrArg F94 rfl) rfl).trans (t94 q3)) jl_0 q4 (by decide)).mp hc)
      exact H.trans (rt_i jl_m101 rfl)
    · replace H := H.2 (fun hz => hc ((eq_J ((congr (congrArg F94 rfl) rfl).trans (t94 q3)) jl_0 q4 (by decide)).mpr hz))
      obtain ⟨q5, q6, H⟩ := H
      refine ⟨fun hc => ?_, fun hc => ?_⟩
      · replace H := H.1 ((eq_J rfl rfl q5 q6).mp hc)
        exact H.trans (rt_i jl_m102 rfl)
      · replace H := H.2 (fun hz => hc ((eq_J rfl rfl q5 q6).mpr hz))
        obtain ⟨q7, H⟩ := H
        refine ⟨Eq.mpr (congr (congr (congrArg P106 rfl) rfl) rfl) (p106 q7), ?_⟩
        obtain ⟨q8, H⟩ := H
        obtain ⟨N1, q9, H⟩ := H
        refine ⟨jm N1, Rn_to (clx (cai rfl (cai rfl (cai rfl rfl)))) rfl rfl q9, ?_⟩
        exact H.trans (rt_i ((congr (congrArg F206 rfl) ((congr (congr (congrArg F106 rfl) rfl) rfl).trans (t106 q7))).trans (t206 q8)) rfl)
-- 179 GlassWires rule (II)I
theorem v179_0 {E : gw_N} {N : NM} {res : Option Value × gw_H} {x1 : Int} {x2 : Int} (H : ((Q96 N x1) ∧ ((R (G96 N x1)) ∧ (((G96 N x1) = 0 → res = (some (.int (J (-101))), hs E (jm N))) ∧ (¬ (G96 N x1) = 0 → (∃ (r1 : Int) (N1 : NM), Rn 98 [.ref 40, .int (J x1), .int (J x2)] (hs E (jm N)) (some (.int (J r1))) (hs E (jm N1)) ∧ res = (some (.int (J r1)), hs E (jm N1)))))))) : Ev 2 179 0 [some (.ref 8), some (.int (J x1)), some (.int (J x2))] [] (hs E (jm N)) res := by
  refine w179_0 ?_
  obtain ⟨q1, H⟩ := H
  obtain ⟨q2, H⟩ := H
  refine ⟨fun hc => ?_, fun hc => ?_⟩
  · replace H := H.1 ((eq_J ((congr (congrArg F96 rfl) rfl).trans (t96 q1)) jl_0 q2 (by decide)).mp hc)
    exact H.trans (rt_i jl_m101 rfl)
  · replace H := H.2 (fun hz => hc ((eq_J ((congr (congrArg F96 rfl) rfl).trans (t96 q1)) jl_0 q2 (by decide)).mpr hz))
    obtain ⟨r1, N1, q3, H⟩ := H
    refine ⟨J r1, jm N1, Rn_to (clx (cai rfl (cai rfl rfl))) rfl rfl q3, ?_⟩
    exact H.trans (rt_i rfl rfl)
-- 182 GlassWires field (III)I
theorem v182_0 {E : gw_N} {N : NM} {res : Option Value × gw_H} {x1 : Int} {x2 : Int} {x3 : Int} (H : ((Q43 N x1 x2) ∧ ((R (G43 N x1 x2)) ∧ (((G43 N x1 x2) = 0 → res = (some (.int (J (-101))), hs E (jm N))) ∧ (¬ (G43 N x1 x2) = 0 → ((R x3) ∧ ((x3 = 0 → (∃ (r1 : Int), Rn 13 [.ref 44, .int (J (G45 N x1 x2))] (hs E (jm N)) (some (.int (J r1))) (hs E (jm N)) ∧ res = (some (.int (J r1)), hs E (jm N)))) ∧ (x3 = 1 → ((Q11 N (G45 N x1 x2)) ∧ res = (some (.int (J (G11 N (G45 N x1 x2)))), hs E (jm N)))) ∧ (¬ x3 = 0 → ¬ x3 = 1 → res = (some (.int (J (-102))), hs E (jm N)))))))))) : Ev 2 182 0 [some (.ref 8), some (.int (J x1)), some (.int (J x2)), some (.int (J x3)), none] [] (hs E (jm N)) res := by
  refine w182_0 ?_
  obtain ⟨q1, H⟩ := H
  obtain ⟨q2, H⟩ := H
  refine ⟨fun hc => ?_, fun hc => ?_⟩
  · replace H := H.1 ((eq_J ((congr (congr (congrArg F43 rfl) rfl) rfl).trans (t43 q1)) jl_0 q2 (by decide)).mp hc)
    exact H.trans (rt_i jl_m101 rfl)
  · replace H := H.2 (fun hz => hc ((eq_J ((congr (congr (congrArg F43 rfl) rfl) rfl).trans (t43 q1)) jl_0 q2 (by decide)).mpr hz))
    obtain ⟨q3, H⟩ := H
    refine ⟨fun hc => ?_, fun hc => ?_, fun hc0 hc1 => ?_⟩
    · replace H := (H.1) ((eq_J rfl jl_0 q3 (by decide)).mp hc)
      obtain ⟨r1, q4, H⟩ := H
      refine ⟨J r1, Rn_to (clx (cai ((congr (congr (congrArg F45 rfl) rfl) rfl).trans (t45)) rfl)) rfl rfl q4, ?_⟩
      exact H.trans (rt_i rfl rfl)
    · replace H := (H.2.1) ((eq_J rfl jl_1 q3 (by decide)).mp hc)
      obtain ⟨q5, H⟩ := H
      refine ⟨Eq.mpr (congr (congrArg P11 rfl) ((congr (congr (congrArg F45 rfl) rfl) rfl).trans (t45))) (p11 q5), ?_⟩
      exact H.trans (rt_i ((congr (congrArg F11 rfl) ((congr (congr (congrArg F45 rfl) rfl) rfl).trans (t45))).trans (t11 q5)) rfl)
    · replace H := (H.2.2) (fun hz => hc0 ((eq_J rfl jl_0 q3 (by decide)).mpr hz)) (fun hz => hc1 ((eq_J rfl jl_1 q3 (by decide)).mpr hz))
      exact H.trans (rt_i jl_m102 rfl)
-- 183 GlassWires layer (IIII)I
theorem v183_0 {E : gw_N} {N : NM} {res : Option Value × gw_H} {x1 : Int} {x2 : Int} {x3 : Int} {x4 : Int} (H : ((Q43 N x1 x2) ∧ ((R (G43 N x1 x2)) ∧ (((G43 N x1 x2) = 0 → res = (some (.int (J (-101))), hs E (jm N))) ∧ (¬ (G43 N x1 x2) = 0 → ((R x4) ∧ ((x4 < 0 → res = (some (.int (J (-102))), hs E (jm N))) ∧ (¬ x4 < 0 → ((x4 ≤ 2 → ((Q14 N (G45 N x1 x2) x3 x4) ∧ res = (some (.int (J (G14 N (G45 N x1 x2) x3 x4))), hs E (jm N)))) ∧ (¬ x4 ≤ 2 → res = (some (.int (J (-102))), hs E (jm N)))))))))))) : Ev 2 183 0 [some (.ref 8), some (.int (J x1)), some (.int (J x2)), some (.int (J x3)), some (.int (J x4))] [] (hs E (jm N)) res := by
  refine w183_0 ?_
  obtain ⟨q1, H⟩ := H
  obtain ⟨q2, H⟩ := H
  refine ⟨fun hc => ?_, fun hc => ?_⟩
  · replace H := H.1 ((eq_J ((congr (congr (congrArg F43 rfl) rfl) rfl).trans (t43 q1)) jl_0 q2 (by decide)).mp hc)
    exact H.trans (rt_i jl_m101 rfl)
  · replace H := H.2 (fun hz => hc ((eq_J ((congr (congr (congrArg F43 rfl) rfl) rfl).trans (t43 q1)) jl_0 q2 (by decide)).mpr hz))
    obtain ⟨q3, H⟩ := H
    refine ⟨fun hc => ?_, fun hc => ?_⟩
    · replace H := H.1 ((lt_J rfl jl_0 q3 (by decide)).mp hc)
      exact H.trans (rt_i jl_m102 rfl)
    · replace H := H.2 (fun hz => hc ((lt_J rfl jl_0 q3 (by decide)).mpr hz))
      refine ⟨fun hc => ?_, fun hc => ?_⟩
      · replace H := H.1 ((le_J rfl jl_2 q3 (by decide)).mp hc)
        obtain ⟨q4, H⟩ := H
        refine ⟨Eq.mpr (congr (congr (congr (congrArg P14 rfl) ((congr (congr (congrArg F45 rfl) rfl) rfl).trans (t45))) rfl) rfl) (p14 q4), ?_⟩
        exact H.trans (rt_i ((congr (congr (congr (congrArg F14 rfl) ((congr (congr (congrArg F45 rfl) rfl) rfl).trans (t45))) rfl) rfl).trans (t14 q4)) rfl)
      · replace H := H.2 (fun hz => hc ((le_J rfl jl_2 q3 (by decide)).mpr hz))
        exact H.trans (rt_i jl_m102 rfl)
def G183 (N : NM) (x1 : Int) (x2 : Int) (x3 : Int) (x4 : Int) : Int := (if (G43 N x1 x2) = 0 then (-101) else (if x4 < 0 then (-102) else (if x4 ≤ 2 then (G14 N (G45 N x1 x2) x3 x4) else (-102))))
def Q183 (N : NM) (x1 : Int) (x2 : Int) (x3 : Int) (x4 : Int) : Prop := ((Q43 N x1 x2) ∧ ((R (G43 N x1 x2)) ∧ (((G43 N x1 x2) = 0 → True) ∧ (¬ (G43 N x1 x2) = 0 → ((R x4) ∧ ((x4 < 0 → True) ∧ (¬ x4 < 0 → ((x4 ≤ 2 → ((Q14 N (G45 N x1 x2) x3 x4) ∧ True)) ∧ (¬ x4 ≤ 2 → True)))))))))
theorem t183 {N : NM} {x1 : Int} {x2 : Int} {x3 : Int} {x4 : Int} (H : Q183 N x1 x2 x3 x4) : F183 (jm N) (J x1) (J x2) (J x3) (J x4) = J (G183 N x1 x2 x3 x4) := by
  unfold Q183 at H
  unfold F183 G183
  obtain ⟨q1, H⟩ := H
  obtain ⟨q2, H⟩ := H
  refine ite_J (eq_J ((congr (congr (congrArg F43 rfl) rfl) rfl).trans (t43 q1)) jl_0 q2 (by decide)) (fun hc => ?_) (fun hc => ?_)
  · replace H := H.1 ((eq_J ((congr (congr (congrArg F43 rfl) rfl) rfl).trans (t43 q1)) jl_0 q2 (by decide)).mp hc)
    exact jl_m101
  · replace H := H.2 (fun hz => hc ((eq_J ((congr (congr (congrArg F43 rfl) rfl) rfl).trans (t43 q1)) jl_0 q2 (by decide)).mpr hz))
    obtain ⟨q3, H⟩ := H
    refine ite_J (lt_J rfl jl_0 q3 (by decide)) (fun hc => ?_) (fun hc => ?_)
    · replace H := H.1 ((lt_J rfl jl_0 q3 (by decide)).mp hc)
      exact jl_m102
    · replace H := H.2 (fun hz => hc ((lt_J rfl jl_0 q3 (by decide)).mpr hz))
      refine ite_J (le_J rfl jl_2 q3 (by decide)) (fun hc => ?_) (fun hc => ?_)
      · replace H := H.1 ((le_J rfl jl_2 q3 (by decide)).mp hc)
        obtain ⟨q4, H⟩ := H
        exact ((congr (congr (congr (congrArg F14 rfl) ((congr (congr (congrArg F45 rfl) rfl) rfl).trans (t45))) rfl) rfl).trans (t14 q4))
      · replace H := H.2 (fun hz => hc ((le_J rfl jl_2 q3 (by decide)).mpr hz))
        exact jl_m102
theorem p183 {N : NM} {x1 : Int} {x2 : Int} {x3 : Int} {x4 : Int} (H : Q183 N x1 x2 x3 x4) : P183 (jm N) (J x1) (J x2) (J x3) (J x4) := by
  unfold Q183 at H
  unfold P183
  obtain ⟨q1, H⟩ := H
  obtain ⟨q2, H⟩ := H
  refine ⟨fun hc => ?_, fun hc => ?_⟩
  · replace H := H.1 ((eq_J ((congr (congr (congrArg F43 rfl) rfl) rfl).trans (t43 q1)) jl_0 q2 (by decide)).mp hc)
    trivial
  · replace H := H.2 (fun hz => hc ((eq_J ((congr (congr (congrArg F43 rfl) rfl) rfl).trans (t43 q1)) jl_0 q2 (by decide)).mpr hz))
    obtain ⟨q3, H⟩ := H
    refine ⟨fun hc => ?_, fun hc => ?_⟩
    · replace H := H.1 ((lt_J rfl jl_0 q3 (by decide)).mp hc)
      trivial
    · replace H := H.2 (fun hz => hc ((lt_J rfl jl_0 q3 (by decide)).mpr hz))
      refine ⟨fun hc => ?_, fun hc => ?_⟩
      · replace H := H.1 ((le_J rfl jl_2 q3 (by decide)).mp hc)
        obtain ⟨q4, H⟩ := H
        exact Eq.mpr (congr (congr (congr (congrArg P14 rfl) ((congr (congr (congrArg F45 rfl) rfl) rfl).trans (t45))) rfl) rfl) (p14 q4)
      · replace H := H.2 (fun hz => hc ((le_J rfl jl_2 q3 (by decide)).mpr hz))
        trivial
theorem sz183 {E : gw_N} {N : NM} {x1 : Int} {x2 : Int} {x3 : Int} {x4 : Int} (H : Q183 N x1 x2 x3 x4) : Rn 183 [.ref 8, .int (J x1), .int (J x2), .int (J x3), .int (J x4)] (hs E (jm N)) (some (.int (J (G183 N x1 x2 x3 x4)))) (hs E (jm N)) := by
  have h := s183 (E := E) (M := jm N) (x1 := J x1) (x2 := J x2) (x3 := J x3) (x4 := J x4) (p183 H)
  rw [t183 H] at h
  exact h
-- 190 GlassWires back (II)I
theorem v190_0 {E : gw_N} {N : NM} {res : Option Value × gw_H} {x1 : Int} {x2 : Int} (H : ((Q94 N x1) ∧ ((R (G94 N x1)) ∧ (((G94 N x1) = 0 → res = (some (.int (J (-101))), hs E (jm N))) ∧ (¬ (G94 N x1) = 0 → ((R x2) ∧ ((x2 < 0 → res = (some (.int (J (-102))), hs E (jm N))) ∧ (¬ x2 < 0 → ((x2 ≤ 99 → (∃ (N1 : NM), Rn 129 [.ref 53, .int (J x1), .int (J x2)] (hs E (jm N)) none (hs E (jm N1)) ∧ res = (some (.int (J 1)), hs E (jm N1)))) ∧ (¬ x2 ≤ 99 → res = (some (.int (J (-102))), hs E (jm N)))))))))))) : Ev 2 190 0 [some (.ref 8), some (.int (J x1)), some (.int (J x2))] [] (hs E (jm N)) res := by
  refine w190_0 ?_
  obtain ⟨q1, H⟩ := H
  obtain ⟨q2, H⟩ := H
  refine ⟨fun hc => ?_, fun hc => ?_⟩
  · replace H := H.1 ((eq_J ((congr (congrArg F94 rfl) rfl).trans (t94 q1)) jl_0 q2 (by decide)).mp hc)
    exact H.trans (rt_i jl_m101 rfl)
  · replace H := H.2 (fun hz => hc ((eq_J ((congr (congrArg F94 rfl) rfl).trans (t94 q1)) jl_0 q2 (by decide)).mpr hz))
    obtain ⟨q3, H⟩ := H
    refine ⟨fun hc => ?_, fun hc => ?_⟩
    · replace H := H.1 ((lt_J rfl jl_0 q3 (by decide)).mp hc)
      exact H.trans (rt_i jl_m102 rfl)
    · replace H := H.2 (fun hz => hc ((lt_J rfl jl_0 q3 (by decide)).mpr hz))
      refine ⟨fun hc => ?_, fun hc => ?_⟩
      · replace H := H.1 ((le_J rfl jl_99 q3 (by decide)).mp hc)
        obtain ⟨N1, q4, H⟩ := H
        refine ⟨jm N1, Rn_to (clx (cai rfl (cai rfl rfl))) rfl rfl q4, ?_⟩
        exact H.trans (rt_i jl_1 rfl)
      · replace H := H.2 (fun hz => hc ((le_J rfl jl_99 q3 (by decide)).mpr hz))
        exact H.trans (rt_i jl_m102 rfl)
-- 199 GlassWires rod (II)I
theorem v199_0 {E : gw_N} {N : NM} {res : Option Value × gw_H} {x1 : Int} {x2 : Int} (H : (∃ (r1 : Int) (N1 : NM), Rn 120 [.ref 54, .int (J x1), .int (J x2)] (hs E (jm N)) (some (.int (J r1))) (hs E (jm N1)) ∧ res = (some (.int (J r1)), hs E (jm N1)))) : Ev 2 199 0 [some (.ref 8), some (.int (J x1)), some (.int (J x2))] [] (hs E (jm N)) res := by
  refine w199_0 ?_
  obtain ⟨r1, N1, q1, H⟩ := H
  refine ⟨J r1, jm N1, Rn_to (clx (cai rfl (cai rfl rfl))) rfl rfl q1, ?_⟩
  exact H.trans (rt_i rfl rfl)
-- 211 GlassWiresModel plate (II)I
theorem v211_0 {E : gw_N} {N : NM} {res : Option Value × gw_H} {x1 : Int} {x2 : Int} (H : ((R x1) ∧ (((if 2 ≤ x1 ∧ x1 ≤ 8 then (1 : Int) else 0) = 0 → res = (some (.int (J (-102))), hs E (jm N))) ∧ (¬ (if 2 ≤ x1 ∧ x1 ≤ 8 then (1 : Int) else 0) = 0 → ((R x2) ∧ (((if 2 ≤ x2 ∧ x2 ≤ 8 then (1 : Int) else 0) = 0 → res = (some (.int (J (-102))), hs E (jm N))) ∧ (¬ (if 2 ≤ x2 ∧ x2 ≤ 8 then (1 : Int) else 0) = 0 → (∃ (N1 : NM), Rn 210 [.ref 59, .int (J x1), .int (J x2)] (hs E (jm N)) none (hs E (jm N1)) ∧ res = (some (.int (J (x1 * x2))), hs E (jm N1)))))))))) : Ev 2 211 0 [some (.ref 59), some (.int (J x1)), some (.int (J x2))] [] (hs E (jm N)) res := by
  refine w211_0 ?_
  obtain ⟨q1, H⟩ := H
  refine ⟨fun hc => ?_, fun hc => ?_⟩
  · replace H := H.1 ((eq_J (in_J (congrArg Int32.toInt64 rfl) ll_2 ll_8 q1 (by decide) (by decide)) jl_0 R_in (by decide)).mp hc)
    exact H.trans (rt_i jl_m102 rfl)
  · replace H := H.2 (fun hz => hc ((eq_J (in_J (congrArg Int32.toInt64 rfl) ll_2 ll_8 q1 (by decide) (by decide)) jl_0 R_in (by decide)).mpr hz))
    obtain ⟨q2, H⟩ := H
    refine ⟨fun hc => ?_, fun hc => ?_⟩
    · replace H := H.1 ((eq_J (in_J (congrArg Int32.toInt64 rfl) ll_2 ll_8 q2 (by decide) (by decide)) jl_0 R_in (by decide)).mp hc)
      exact H.trans (rt_i jl_m102 rfl)
    · replace H := H.2 (fun hz => hc ((eq_J (in_J (congrArg Int32.toInt64 rfl) ll_2 ll_8 q2 (by decide) (by decide)) jl_0 R_in (by decide)).mpr hz))
      obtain ⟨N1, q3, H⟩ := H
      refine ⟨jm N1, Rn_to (clx (cai rfl (cai rfl rfl))) rfl rfl q3, ?_⟩
      exact H.trans (rt_i (mul_J rfl rfl) rfl)
-- 214 GlassWiresModel isPoint (II)Z
theorem v214_0 {E : gw_N} {N : NM} {res : Option Value × gw_H} {x1 : Int} {x2 : Int} (H : ((R x1) ∧ ((R ((N 59) 0)) ∧ (((if 0 ≤ x1 ∧ x1 ≤ ((N 59) 0) then (1 : Int) else 0) = 0 → res = (some (.int (J 0)), hs E (jm N))) ∧ (¬ (if 0 ≤ x1 ∧ x1 ≤ ((N 59) 0) then (1 : Int) else 0) = 0 → ((R x2) ∧ ((R ((N 59) 1)) ∧ (((if 0 ≤ x2 ∧ x2 ≤ ((N 59) 1) then (1 : Int) else 0) = 0 → res = (some (.int (J 0)), hs E (jm N))) ∧ (¬ (if 0 ≤ x2 ∧ x2 ≤ ((N 59) 1) then (1 : Int) else 0) = 0 → res = (some (.int (J 1)), hs E (jm N))))))))))) : Ev 2 214 0 [some (.ref 59), some (.int (J x1)), some (.int (J x2))] [] (hs E (jm N)) res := by
  refine w214_0 ?_
  obtain ⟨q1, q2, H⟩ := H
  refine ⟨fun hc => ?_, fun hc => ?_⟩
  · replace H := H.1 ((eq_J (in_J (congrArg Int32.toInt64 rfl) ll_0 (congrArg Int32.toInt64 (fld_J (jf_base _ _))) q1 (by decide) q2) jl_0 R_in (by decide)).mp hc)
    exact H.trans (rt_i jl_0 rfl)
  · replace H := H.2 (fun hz => hc ((eq_J (in_J (congrArg Int32.toInt64 rfl) ll_0 (congrArg Int32.toInt64 (fld_J (jf_base _ _))) q1 (by decide) q2) jl_0 R_in (by decide)).mpr hz))
    obtain ⟨q3, q4, H⟩ := H
    refine ⟨fun hc => ?_, fun hc => ?_⟩
    · replace H := H.1 ((eq_J (in_J (congrArg Int32.toInt64 rfl) ll_0 (congrArg Int32.toInt64 (fld_J (jf_base _ _))) q3 (by decide) q4) jl_0 R_in (by decide)).mp hc)
      exact H.trans (rt_i jl_0 rfl)
    · replace H := H.2 (fun hz => hc ((eq_J (in_J (congrArg Int32.toInt64 rfl) ll_0 (congrArg Int32.toInt64 (fld_J (jf_base _ _))) q3 (by decide) q4) jl_0 R_in (by decide)).mpr hz))
      exact H.trans (rt_i jl_1 rfl)
def G214 (N : NM) (x1 : Int) (x2 : Int) : Int := (if (if 0 ≤ x1 ∧ x1 ≤ ((N 59) 0) then (1 : Int) else 0) = 0 then 0 else (if (if 0 ≤ x2 ∧ x2 ≤ ((N 59) 1) then (1 : Int) else 0) = 0 then 0 else 1))
def Q214 (N : NM) (x1 : Int) (x2 : Int) : Prop := ((R x1) ∧ ((R ((N 59) 0)) ∧ (((if 0 ≤ x1 ∧ x1 ≤ ((N 59) 0) then (1 : Int) else 0) = 0 → True) ∧ (¬ (if 0 ≤ x1 ∧ x1 ≤ ((N 59) 0) then (1 : Int) else 0) = 0 → ((R x2) ∧ ((R ((N 59) 1)) ∧ (((if 0 ≤ x2 ∧ x2 ≤ ((N 59) 1) then (1 : Int) else 0) = 0 → True) ∧ (¬ (if 0 ≤ x2 ∧ x2 ≤ ((N 59) 1) then (1 : Int) else 0) = 0 → True))))))))
theorem t214 {N : NM} {x1 : Int} {x2 : Int} (H : Q214 N x1 x2) : F214 (jm N) (J x1) (J x2) = J (G214 N x1 x2) := by
  unfold Q214 at H
  unfold F214 G214
  obtain ⟨q1, q2, H⟩ := H
  refine ite_J (eq_J (in_J (congrArg Int32.toInt64 rfl) ll_0 (congrArg Int32.toInt64 (fld_J (jf_base _ _))) q1 (by decide) q2) jl_0 R_in (by decide)) (fun hc => ?_) (fun hc => ?_)
  · replace H := H.1 ((eq_J (in_J (congrArg Int32.toInt64 rfl) ll_0 (congrArg Int32.toInt64 (fld_J (jf_base _ _))) q1 (by decide) q2) jl_0 R_in (by decide)).mp hc)
    exact jl_0
  · replace H := H.2 (fun hz => hc ((eq_J (in_J (congrArg Int32.toInt64 rfl) ll_0 (congrArg Int32.toInt64 (fld_J (jf_base _ _))) q1 (by decide) q2) jl_0 R_in (by decide)).mpr hz))
    obtain ⟨q3, q4, H⟩ := H
    refine ite_J (eq_J (in_J (congrArg Int32.toInt64 rfl) ll_0 (congrArg Int32.toInt64 (fld_J (jf_base _ _))) q3 (by decide) q4) jl_0 R_in (by decide)) (fun hc => ?_) (fun hc => ?_)
    · replace H := H.1 ((eq_J (in_J (congrArg Int32.toInt64 rfl) ll_0 (congrArg Int32.toInt64 (fld_J (jf_base _ _))) q3 (by decide) q4) jl_0 R_in (by decide)).mp hc)
      exact jl_0
    · replace H := H.2 (fun hz => hc ((eq_J (in_J (congrArg Int32.toInt64 rfl) ll_0 (congrArg Int32.toInt64 (fld_J (jf_base _ _))) q3 (by decide) q4) jl_0 R_in (by decide)).mpr hz))
      exact jl_1
theorem sz214 {E : gw_N} {N : NM} {x1 : Int} {x2 : Int} (H : Q214 N x1 x2) : Rn 214 [.ref 59, .int (J x1), .int (J x2)] (hs E (jm N)) (some (.int (J (G214 N x1 x2)))) (hs E (jm N)) := by
  have h := s214 (E := E) (M := jm N) (x1 := J x1) (x2 := J x2)
  rw [t214 H] at h
  exact h
-- 220 GlassWiresModel isWire (I)Z
theorem v220_0 {E : gw_N} {N : NM} {res : Option Value × gw_H} {x1 : Int} (H : ((R x1) ∧ ((R (((N 59) 4) - 1)) ∧ res = (some (.int (J (if 0 ≤ x1 ∧ x1 ≤ (((N 59) 4) - 1) then (1 : Int) else 0))), hs E (jm N))))) : Ev 2 220 0 [some (.ref 59), some (.int (J x1))] [] (hs E (jm N)) res := by
  refine w220_0 ?_
  obtain ⟨q1, q2, H⟩ := H
  exact H.trans (rt_i (in_J (congrArg Int32.toInt64 rfl) ll_0 (congrArg Int32.toInt64 (sub_J (fld_J (jf_base _ _)) jl_1)) q1 (by decide) q2) rfl)
def G220 (N : NM) (x1 : Int) : Int := (if 0 ≤ x1 ∧ x1 ≤ (((N 59) 4) - 1) then (1 : Int) else 0)
def Q220 (N : NM) (x1 : Int) : Prop := ((R x1) ∧ ((R (((N 59) 4) - 1)) ∧ True))
theorem t220 {N : NM} {x1 : Int} (H : Q220 N x1) : F220 (jm N) (J x1) = J (G220 N x1) := by
  unfold Q220 at H
  unfold F220 G220
  obtain ⟨q1, q2, H⟩ := H
  exact (in_J (congrArg Int32.toInt64 rfl) ll_0 (congrArg Int32.toInt64 (sub_J (fld_J (jf_base _ _)) jl_1)) q1 (by decide) q2)
theorem sz220 {E : gw_N} {N : NM} {x1 : Int} (H : Q220 N x1) : Rn 220 [.ref 59, .int (J x1)] (hs E (jm N)) (some (.int (J (G220 N x1)))) (hs E (jm N)) := by
  have h := s220 (E := E) (M := jm N) (x1 := J x1)
  rw [t220 H] at h
  exact h
-- 224 GlassWiresModel hasEdge (II)Z
theorem v224_0 {E : gw_N} {N : NM} {res : Option Value × gw_H} {x1 : Int} {x2 : Int} (H : Ev 2 224 5 [some (.ref 59), some (.int (J x1)), some (.int (J x2)), some (.int (J 0)), some (.int (J 0))] [] (hs E (jm N)) res) : Ev 2 224 0 [some (.ref 59), some (.int (J x1)), some (.int (J x2)), none, none] [] (hs E (jm N)) res := by
  refine w224_0 ?_
  exact Ev_to (clx (cli rfl (cli rfl (cli jl_0 (cli jl_0 rfl))))) rfl rfl H
theorem v224_5 {E : gw_N} {N : NM} {res : Option Value × gw_H} {x1 : Int} {x2 : Int} {x3 : Int} {x4 : Int} (H : ((0 ≤ x1 ∧ x1 < 30) ∧ ((R ((N 63) x1)) ∧ ((R x4) ∧ ((((N 63) x1) ≤ x4 → ((x3 = 0 ∨ x3 = 1) ∧ res = (some (.int (J x3)), hs E (jm N)))) ∧ (¬ ((N 63) x1) ≤ x4 → ((R x3) ∧ ((x3 = 0 → ((Q223 N x1 x4) ∧ ((R (G223 N x1 x4)) ∧ ((R x2) ∧ (((G223 N x1 x4) = x2 → Ev 2 224 5 [some (.ref 59), some (.int (J x1)), some (.int (J x2)), some (.int (J 1)), some (.int (J (x4 + 1)))] [] (hs E (jm N)) res) ∧ (¬ (G223 N x1 x4) = x2 → Ev 2 224 5 [some (.ref 59), some (.int (J x1)), some (.int (J x2)), some (.int (J 0)), some (.int (J (x4 + 1)))] [] (hs E (jm N)) res)))))) ∧ (¬ x3 = 0 → Ev 2 224 5 [some (.ref 59), some (.int (J x1)), some (.int (J x2)), some (.int (J 1)), some (.int (J (x4 + 1)))] [] (hs E (jm N)) res))))))))) : Ev 2 224 5 [some (.ref 59), some (.int (J x1)), some (.int (J x2)), some (.int (J x3)), some (.int (J x4))] [] (hs E (jm N)) res := by
  refine w224_5 ?_
  obtain ⟨q1, H⟩ := H
  refine ⟨inb_J rfl q1 (by decide), ?_⟩
  obtain ⟨q2, q3, H⟩ := H
  refine ⟨fun hc => ?_, fun hc => ?_⟩
  · replace H := H.1 ((le_J (rd_J (jf_base _ _) rfl q1 (by decide)) rfl q2 q3).mp hc)
    obtain ⟨q4, H⟩ := H
    refine ⟨bb_J rfl q4, ?_⟩
    exact H.trans (rt_i rfl rfl)
  · replace H := H.2 (fun hz => hc ((le_J (rd_J (jf_base _ _) rfl q1 (by decide)) rfl q2 q3).mpr hz))
    obtain ⟨q5, H⟩ := H
    refine ⟨fun hc => ?_, fun hc => ?_⟩
    · replace H := H.1 ((eq_J rfl jl_0 q5 (by decide)).mp hc)
      obtain ⟨q6, H⟩ := H
      refine ⟨Eq.mpr (congr (congr (congrArg P223 rfl) rfl) rfl) (p223 q6), ?_⟩
      obtain ⟨q7, q8, H⟩ := H
      refine ⟨fun hc => ?_, fun hc => ?_⟩
      · replace H := H.1 ((eq_J ((congr (congr (congrArg F223 rfl) rfl) rfl).trans (t223 q6)) rfl q7 q8).mp hc)
        exact Ev_to (clx (cli rfl (cli rfl (cli jl_1 (cli (add_J rfl jl_1) rfl))))) rfl rfl H
      · replace H := H.2 (fun hz => hc ((eq_J ((congr (congr (congrArg F223 rfl) rfl) rfl).trans (t223 q6)) rfl q7 q8).mpr hz))
        exact Ev_to (clx (cli rfl (cli rfl (cli jl_0 (cli (add_J rfl jl_1) rfl))))) rfl rfl H
    · replace H := H.2 (fun hz => hc ((eq_J rfl jl_0 q5 (by decide)).mpr hz))
      exact Ev_to (clx (cli rfl (cli rfl (cli jl_1 (cli (add_J rfl jl_1) rfl))))) rfl rfl H
-- 227 GlassWiresModel stands (I)Z
theorem v227_0 {E : gw_N} {N : NM} {res : Option Value × gw_H} {x1 : Int} (H : (∃ (r1 : Int), Rn 226 [.ref 59, .int (J x1)] (hs E (jm N)) (some (.int (J r1))) (hs E (jm N)) ∧ ((R r1) ∧ ((r1 ≤ 0 → Ev 2 227 16 [some (.ref 59), some (.int (J x1)), some (.int (J 0)), some (.int (J 0)), none] [] (hs E (jm N)) res) ∧ (¬ r1 ≤ 0 → Ev 2 227 16 [some (.ref 59), some (.int (J x1)), some (.int (J 1)), some (.int (J 0)), none] [] (hs E (jm N)) res))))) : Ev 2 227 0 [some (.ref 59), some (.int (J x1)), none, none, none] [] (hs E (jm N)) res := by
  refine w227_0 ?_
  obtain ⟨r1, q2, H⟩ := H
  refine ⟨J r1, Rn_to (clx (cai rfl rfl)) rfl rfl q2, ?_⟩
  obtain ⟨q1, H⟩ := H
  refine ⟨fun hc => ?_, fun hc => ?_⟩
  · replace H := H.1 ((le_J rfl jl_0 q1 (by decide)).mp hc)
    exact Ev_to (clx (cli rfl (cli jl_0 (cli jl_0 (clx rfl))))) rfl rfl H
  · replace H := H.2 (fun hz => hc ((le_J rfl jl_0 q1 (by decide)).mpr hz))
    exact Ev_to (clx (cli rfl (cli jl_1 (cli jl_0 (clx rfl))))) rfl rfl H
theorem v227_16 {E : gw_N} {N : NM} {res : Option Value × gw_H} {x1 : Int} {x2 : Int} {x3 : Int} (H : ((0 ≤ x1 ∧ x1 < 30) ∧ ((R ((N 63) x1)) ∧ ((R x3) ∧ ((((N 63) x1) < x3 → ((x2 = 0 ∨ x2 = 1) ∧ res = (some (.int (J x2)), hs E (jm N)))) ∧ (¬ ((N 63) x1) < x3 → Ev 2 227 29 [some (.ref 59), some (.int (J x1)), some (.int (J x2)), some (.int (J x3)), some (.int (J 0))] [] (hs E (jm N)) res)))))) : Ev 2 227 16 [some (.ref 59), some (.int (J x1)), some (.int (J x2)), some (.int (J x3)), none] [] (hs E (jm N)) res := by
  refine w227_16 ?_
  obtain ⟨q1, H⟩ := H
  refine ⟨inb_J rfl q1 (by decide), ?_⟩
  obtain ⟨q2, q3, H⟩ := H
  refine ⟨fun hc => ?_, fun hc => ?_⟩
  · replace H := H.1 ((lt_J (rd_J (jf_base _ _) rfl q1 (by decide)) rfl q2 q3).mp hc)
    obtain ⟨q4, H⟩ := H
    refine ⟨bb_J rfl q4, ?_⟩
    exact H.trans (rt_i rfl rfl)
  · replace H := H.2 (fun hz => hc ((lt_J (rd_J (jf_base _ _) rfl q1 (by decide)) rfl q2 q3).mpr hz))
    exact Ev_to (clx (cli rfl (cli rfl (cli rfl (cli jl_0 rfl))))) rfl rfl H
theorem v227_29 {E : gw_N} {N : NM} {res : Option Value × gw_H} {x1 : Int} {x2 : Int} {x3 : Int} {x4 : Int} (H : ((R x3) ∧ ((R x4) ∧ ((x3 ≤ x4 → Ev 2 227 16 [some (.ref 59), some (.int (J x1)), some (.int (J x2)), some (.int (J (x3 + 1))), none] [] (hs E (jm N)) res) ∧ (¬ x3 ≤ x4 → ((R x2) ∧ ((x2 = 0 → ((0 ≤ ((25 * x1) + x3) ∧ ((25 * x1) + x3) < 750) ∧ ((0 ≤ ((25 * x1) + x4) ∧ ((25 * x1) + x4) < 750) ∧ ((R ((N 61) ((25 * x1) + x3))) ∧ ((R ((N 61) ((25 * x1) + x4))) ∧ ((((N 61) ((25 * x1) + x3)) = ((N 61) ((25 * x1) + x4)) → ((R ((N 62) ((25 * x1) + x3))) ∧ ((R ((N 62) ((25 * x1) + x4))) ∧ ((((N 62) ((25 * x1) + x3)) = ((N 62) ((25 * x1) + x4)) → Ev 2 227 29 [some (.ref 59), some (.int (J x1)), some (.int (J 1)), some (.int (J x3)), some (.int (J (x4 + 1)))] [] (hs E (jm N)) res) ∧ (¬ ((N 62) ((25 * x1) + x3)) = ((N 62) ((25 * x1) + x4)) → Ev 2 227 29 [some (.ref 59), some (.int (J x1)), some (.int (J 0)), some (.int (J x3)), some (.int (J (x4 + 1)))] [] (hs E (jm N)) res))))) ∧ (¬ ((N 61) ((25 * x1) + x3)) = ((N 61) ((25 * x1) + x4)) → Ev 2 227 29 [some (.ref 59), some (.int (J x1)), some (.int (J 0)), some (.int (J x3)), some (.int (J (x4 + 1)))] [] (hs E (jm N)) res))))))) ∧ (¬ x2 = 0 → Ev 2 227 29 [some (.ref 59), some (.int (J x1)), some (.int (J 1)), some (.int (J x3)), some (.int (J (x4 + 1)))] [] (hs E (jm N)) res)))))))) : Ev 2 227 29 [some (.ref 59), some (.int (J x1)), some (.int (J x2)), some (.int (J x3)), some (.int (J x4))] [] (hs E (jm N)) res := by
  refine w227_29 ?_
  obtain ⟨q1, q2, H⟩ := H
  refine ⟨fun hc => ?_, fun hc => ?_⟩
  · replace H := H.1 ((le_J rfl rfl q1 q2).mp hc)
    exact Ev_to (clx (cli rfl (cli rfl (cli (add_J rfl jl_1) (clx rfl))))) rfl rfl H
  · replace H := H.2 (fun hz => hc ((le_J rfl rfl q1 q2).mpr hz))
    obtain ⟨q3, H⟩ := H
    refine ⟨fun hc => ?_, fun hc => ?_⟩
    · replace H := H.1 ((eq_J rfl jl_0 q3 (by decide)).mp hc)
      obtain ⟨q4, H⟩ := H
      refine ⟨inb_J (add_J (mul_J jl_25 rfl) rfl) q4 (by decide), ?_⟩
      obtain ⟨q5, H⟩ := H
      refine ⟨inb_J (add_J (mul_J jl_25 rfl) rfl) q5 (by decide), ?_⟩
      obtain ⟨q6, q7, H⟩ := H
      refine ⟨fun hc => ?_, fun hc => ?_⟩
      · replace H := H.1 ((eq_J (rd_J (jf_base _ _) (add_J (mul_J jl_25 rfl) rfl) q4 (by decide)) (rd_J (jf_base _ _) (add_J (mul_J jl_25 rfl) rfl) q5 (by decide)) q6 q7).mp hc)
        refine ⟨inb_J (add_J (mul_J jl_25 rfl) rfl) q4 (by decide), ?_⟩
        refine ⟨inb_J (add_J (mul_J jl_25 rfl) rfl) q5 (by decide), ?_⟩
        obtain ⟨q8, q9, H⟩ := H
        refine ⟨fun hc => ?_, fun hc => ?_⟩
        · replace H := H.1 ((eq_J (rd_J (jf_base _ _) (add_J (mul_J jl_25 rfl) rfl) q4 (by decide)) (rd_J (jf_base _ _) (add_J (mul_J jl_25 rfl) rfl) q5 (by decide)) q8 q9).mp hc)
          exact Ev_to (clx (cli rfl (cli jl_1 (cli rfl (cli (add_J rfl jl_1) rfl))))) rfl rfl H
        · replace H := H.2 (fun hz => hc ((eq_J (rd_J (jf_base _ _) (add_J (mul_J jl_25 rfl) rfl) q4 (by decide)) (rd_J (jf_base _ _) (add_J (mul_J jl_25 rfl) rfl) q5 (by decide)) q8 q9).mpr hz))
          exact Ev_to (clx (cli rfl (cli jl_0 (cli rfl (cli (add_J rfl jl_1) rfl))))) rfl rfl H
      · replace H := H.2 (fun hz => hc ((eq_J (rd_J (jf_base _ _) (add_J (mul_J jl_25 rfl) rfl) q4 (by decide)) (rd_J (jf_base _ _) (add_J (mul_J jl_25 rfl) rfl) q5 (by decide)) q6 q7).mpr hz))
        exact Ev_to (clx (cli rfl (cli jl_0 (cli rfl (cli (add_J rfl jl_1) rfl))))) rfl rfl H
    · replace H := H.2 (fun hz => hc ((eq_J rfl jl_0 q3 (by decide)).mpr hz))
      exact Ev_to (clx (cli rfl (cli jl_1 (cli rfl (cli (add_J rfl jl_1) rfl))))) rfl rfl H
-- 229 GlassWiresModel touch (II)Z
theorem v229_0 {E : gw_N} {N : NM} {res : Option Value × gw_H} {x1 : Int} {x2 : Int} (H : Ev 2 229 5 [some (.ref 59), some (.int (J x1)), some (.int (J x2)), some (.int (J 0)), some (.int (J 0))] [] (hs E (jm N)) res) : Ev 2 229 0 [some (.ref 59), some (.int (J x1)), some (.int (J x2)), none, none] [] (hs E (jm N)) res := by
  refine w229_0 ?_
  exact Ev_to (clx (cli rfl (cli rfl (cli jl_0 (cli jl_0 rfl))))) rfl rfl H
theorem v229_5 {E : gw_N} {N : NM} {res : Option Value × gw_H} {x1 : Int} {x2 : Int} {x3 : Int} {x4 : Int} (H : ((0 ≤ x1 ∧ x1 < 30) ∧ ((R ((N 63) x1)) ∧ ((R x4) ∧ ((((N 63) x1) < x4 → ((x3 = 0 ∨ x3 = 1) ∧ res = (some (.int (J x3)), hs E (jm N)))) ∧ (¬ ((N 63) x1) < x4 → ((R x3) ∧ ((x3 = 0 → ((0 ≤ ((25 * x1) + x4) ∧ ((25 * x1) + x4) < 750) ∧ (∃ (r1 : Int), Rn 228 [.ref 59, .int (J x2), .int (J ((N 61) ((25 * x1) + x4))), .int (J ((N 62) ((25 * x1) + x4)))] (hs E (jm N)) (some (.int (J r1))) (hs E (jm N)) ∧ ((R r1) ∧ ((r1 = 0 → Ev 2 229 5 [some (.ref 59), some (.int (J x1)), some (.int (J x2)), some (.int (J 0)), some (.int (J (x4 + 1)))] [] (hs E (jm N)) res) ∧ (¬ r1 = 0 → Ev 2 229 5 [some (.ref 59), some (.int (J x1)), some (.int (J x2)), some (.int (J 1)), some (.int (J (x4 + 1)))] [] (hs E (jm N)) res)))))) ∧ (¬ x3 = 0 → Ev 2 229 5 [some (.ref 59), some (.int (J x1)), some (.int (J x2)), some (.int (J 1)), some (.int (J (x4 + 1)))] [] (hs E (jm N)) res))))))))) : Ev 2 229 5 [some (.ref 59), some (.int (J x1)), some (.int (J x2)), some (.int (J x3)), some (.int (J x4))] [] (hs E (jm N)) res := by
  refine w229_5 ?_
  obtain ⟨q1, H⟩ := H
  refine ⟨inb_J rfl q1 (by decide), ?_⟩
  obtain ⟨q2, q3, H⟩ := H
  refine ⟨fun hc => ?_, fun hc => ?_⟩
  · replace H := H.1 ((lt_J (rd_J (jf_base _ _) rfl q1 (by decide)) rfl q2 q3).mp hc)
    obtain ⟨q4, H⟩ := H
    refine ⟨bb_J rfl q4, ?_⟩
    exact H.trans (rt_i rfl rfl)
  · replace H := H.2 (fun hz => hc ((lt_J (rd_J (jf_base _ _) rfl q1 (by decide)) rfl q2 q3).mpr hz))
    obtain ⟨q5, H⟩ := H
    refine ⟨fun hc => ?_, fun hc => ?_⟩
    · replace H := H.1 ((eq_J rfl jl_0 q5 (by decide)).mp hc)
      obtain ⟨q6, H⟩ := H
      refine ⟨inb_J (add_J (mul_J jl_25 rfl) rfl) q6 (by decide), ?_⟩
      refine ⟨inb_J (add_J (mul_J jl_25 rfl) rfl) q6 (by decide), ?_⟩
      obtain ⟨r1, q8, H⟩ := H
      refine ⟨J r1, Rn_to (clx (cai rfl (cai (rd_J (jf_base _ _) (add_J (mul_J jl_25 rfl) rfl) q6 (by decide)) (cai (rd_J (jf_base _ _) (add_J (mul_J jl_25 rfl) rfl) q6 (by decide)) rfl)))) rfl rfl q8, ?_⟩
      obtain ⟨q7, H⟩ := H
      refine ⟨fun hc => ?_, fun hc => ?_⟩
      · replace H := H.1 ((eq_J rfl jl_0 q7 (by decide)).mp hc)
        exact Ev_to (clx (cli rfl (cli rfl (cli jl_0 (cli (add_J rfl jl_1) rfl))))) rfl rfl H
      · replace H := H.2 (fun hz => hc ((eq_J rfl jl_0 q7 (by decide)).mpr hz))
        exact Ev_to (clx (cli rfl (cli rfl (cli jl_1 (cli (add_J rfl jl_1) rfl))))) rfl rfl H
    · replace H := H.2 (fun hz => hc ((eq_J rfl jl_0 q5 (by decide)).mpr hz))
      exact Ev_to (clx (cli rfl (cli rfl (cli jl_1 (cli (add_J rfl jl_1) rfl))))) rfl rfl H
-- 234 GlassWiresModel isEdge (III)Z
theorem v234_0 {E : gw_N} {N : NM} {res : Option Value × gw_H} {x1 : Int} {x2 : Int} {x3 : Int} (H : ((R x3) ∧ ((x3 = 0 → ((R x1) ∧ ((R (((N 59) 0) - 1)) ∧ (((if 0 ≤ x1 ∧ x1 ≤ (((N 59) 0) - 1) then (1 : Int) else 0) = 0 → ((x3 = 1 → ((R ((N 59) 0)) ∧ (((if 0 ≤ x1 ∧ x1 ≤ ((N 59) 0) then (1 : Int) else 0) = 0 → res = (some (.int (J 0)), hs E (jm N))) ∧ (¬ (if 0 ≤ x1 ∧ x1 ≤ ((N 59) 0) then (1 : Int) else 0) = 0 → ((R x2) ∧ ((R (((N 59) 1) - 1)) ∧ (((if 0 ≤ x2 ∧ x2 ≤ (((N 59) 1) - 1) then (1 : Int) else 0) = 0 → res = (some (.int (J 0)), hs E (jm N))) ∧ (¬ (if 0 ≤ x2 ∧ x2 ≤ (((N 59) 1) - 1) then (1 : Int) else 0) = 0 → res = (some (.int (J 1)), hs E (jm N)))))))))) ∧ (¬ x3 = 1 → res = (some (.int (J 0)), hs E (jm N))))) ∧ (¬ (if 0 ≤ x1 ∧ x1 ≤ (((N 59) 0) - 1) then (1 : Int) else 0) = 0 → ((R x2) ∧ ((R ((N 59) 1)) ∧ (((if 0 ≤ x2 ∧ x2 ≤ ((N 59) 1) then (1 : Int) else 0) = 0 → ((x3 = 1 → ((R ((N 59) 0)) ∧ (((if 0 ≤ x1 ∧ x1 ≤ ((N 59) 0) then (1 : Int) else 0) = 0 → res = (some (.int (J 0)), hs E (jm N))) ∧ (¬ (if 0 ≤ x1 ∧ x1 ≤ ((N 59) 0) then (1 : Int) else 0) = 0 → ((R (((N 59) 1) - 1)) ∧ (((if 0 ≤ x2 ∧ x2 ≤ (((N 59) 1) - 1) then (1 : Int) else 0) = 0 → res = (some (.int (J 0)), hs E (jm N))) ∧ (¬ (if 0 ≤ x2 ∧ x2 ≤ (((N 59) 1) - 1) then (1 : Int) else 0) = 0 → res = (some (.int (J 1)), hs E (jm N))))))))) ∧ (¬ x3 = 1 → res = (some (.int (J 0)), hs E (jm N))))) ∧ (¬ (if 0 ≤ x2 ∧ x2 ≤ ((N 59) 1) then (1 : Int) else 0) = 0 → res = (some (.int (J 1)), hs E (jm N))))))))))) ∧ (¬ x3 = 0 → ((x3 = 1 → ((R x1) ∧ ((R ((N 59) 0)) ∧ (((if 0 ≤ x1 ∧ x1 ≤ ((N 59) 0) then (1 : Int) else 0) = 0 → res = (some (.int (J 0)), hs E (jm N))) ∧ (¬ (if 0 ≤ x1 ∧ x1 ≤ ((N 59) 0) then (1 : Int) else 0) = 0 → ((R x2) ∧ ((R (((N 59) 1) - 1)) ∧ (((if 0 ≤ x2 ∧ x2 ≤ (((N 59) 1) - 1) then (1 : Int) else 0) = 0 → res = (some (.int (J 0)), hs E (jm N))) ∧ (¬ (if 0 ≤ x2 ∧ x2 ≤ (((N 59) 1) - 1) then (1 : Int) else 0) = 0 → res = (some (.int (J 1)), hs E (jm N))))))))))) ∧ (¬ x3 = 1 → res = (some (.int (J 0)), hs E (jm N)))))))) : Ev 2 234 0 [some (.ref 59), some (.int (J x1)), some (.int (J x2)), some (.int (J x3))] [] (hs E (jm N)) res := by
  refine w234_0 ?_
  obtain ⟨q1, H⟩ := H
  refine ⟨fun hc => ?_, fun hc => ?_⟩
  · replace H := H.1 ((eq_J rfl jl_0 q1 (by decide)).mp hc)
    obtain ⟨q2, q3, H⟩ := H
    refine ⟨fun hc => ?_, fun hc => ?_⟩
    · replace H := H.1 ((eq_J (in_J (congrArg Int32.toInt64 rfl) ll_0 (congrArg Int32.toInt64 (sub_J (fld_J (jf_base _ _)) jl_1)) q2 (by decide) q3) jl_0 R_in (by decide)).mp hc)
      refine ⟨fun hc => ?_, fun hc => ?_⟩
      · replace H := H.1 ((eq_J rfl jl_1 q1 (by decide)).mp hc)
        obtain ⟨q4, H⟩ := H
        refine ⟨fun hc => ?_, fun hc => ?_⟩
        · replace H := H.1 ((eq_J (in_J (congrArg Int32.toInt64 rfl) ll_0 (congrArg Int32.toInt64 (fld_J (jf_base _ _))) q2 (by decide) q4) jl_0 R_in (by decide)).mp hc)
          exact H.trans (rt_i jl_0 rfl)
        · replace H := H.2 (fun hz => hc ((eq_J (in_J (congrArg Int32.toInt64 rfl) ll_0 (congrArg Int32.toInt64 (fld_J (jf_base _ _))) q2 (by decide) q4) jl_0 R_in (by decide)).mpr hz))
          obtain ⟨q5, q6, H⟩ := H
          refine ⟨fun hc => ?_, fun hc => ?_⟩
          · replace H := H.1 ((eq_J (in_J (congrArg Int32.toInt64 rfl) ll_0 (congrArg Int32.toInt64 (sub_J (fld_J (jf_base _ _)) jl_1)) q5 (by decide) q6) jl_0 R_in (by decide)).mp hc)
            exact H.trans (rt_i jl_0 rfl)
          · replace H := H.2 (fun hz => hc ((eq_J (in_J (congrArg Int32.toInt64 rfl) ll_0 (congrArg Int32.toInt64 (sub_J (fld_J (jf_base _ _)) jl_1)) q5 (by decide) q6) jl_0 R_in (by decide)).mpr hz))
            exact H.trans (rt_i jl_1 rfl)
      · replace H := H.2 (fun hz => hc ((eq_J rfl jl_1 q1 (by decide)).mpr hz))
        exact H.trans (rt_i jl_0 rfl)
    · replace H := H.2 (fun hz => hc ((eq_J (in_J (congrArg Int32.toInt64 rfl) ll_0 (congrArg Int32.toInt64 (sub_J (fld_J (jf_base _ _)) jl_1)) q2 (by decide) q3) jl_0 R_in (by decide)).mpr hz))
      obtain ⟨q7, q8, H⟩ := H
      refine ⟨fun hc => ?_, fun hc => ?_⟩
      · replace H := H.1 ((eq_J (in_J (congrArg Int32.toInt64 rfl) ll_0 (congrArg Int32.toInt64 (fld_J (jf_base _ _))) q7 (by decide) q8) jl_0 R_in (by decide)).mp hc)
        refine ⟨fun hc => ?_, fun hc => ?_⟩
        · replace H := H.1 ((eq_J rfl jl_1 q1 (by decide)).mp hc)
          obtain ⟨q9, H⟩ := H
          refine ⟨fun hc => ?_, fun hc => ?_⟩
          · replace H := H.1 ((eq_J (in_J (congrArg Int32.toInt64 rfl) ll_0 (congrArg Int32.toInt64 (fld_J (jf_base _ _))) q2 (by decide) q9) jl_0 R_in (by decide)).mp hc)
            exact H.trans (rt_i jl_0 rfl)
          · replace H := H.2 (fun hz => hc ((eq_J (in_J (congrArg Int32.toInt64 rfl) ll_0 (congrArg Int32.toInt64 (fld_J (jf_base _ _))) q2 (by decide) q9) jl_0 R_in (by decide)).mpr hz))
            obtain ⟨q10, H⟩ := H
            refine ⟨fun hc => ?_, fun hc => ?_⟩
            · replace H := H.1 ((eq_J (in_J (congrArg Int32.toInt64 rfl) ll_0 (congrArg Int32.toInt64 (sub_J (fld_J (jf_base _ _)) jl_1)) q7 (by decide) q10) jl_0 R_in (by decide)).mp hc)
              exact H.trans (rt_i jl_0 rfl)
            · replace H := H.2 (fun hz => hc ((eq_J (in_J (congrArg Int32.toInt64 rfl) ll_0 (congrArg Int32.toInt64 (sub_J (fld_J (jf_base _ _)) jl_1)) q7 (by decide) q10) jl_0 R_in (by decide)).mpr hz))
              exact H.trans (rt_i jl_1 rfl)
        · replace H := H.2 (fun hz => hc ((eq_J rfl jl_1 q1 (by decide)).mpr hz))
          exact H.trans (rt_i jl_0 rfl)
      · replace H := H.2 (fun hz => hc ((eq_J (in_J (congrArg Int32.toInt64 rfl) ll_0 (congrArg Int32.toInt64 (fld_J (jf_base _ _))) q7 (by decide) q8) jl_0 R_in (by decide)).mpr hz))
        exact H.trans (rt_i jl_1 rfl)
  · replace H := H.2 (fun hz => hc ((eq_J rfl jl_0 q1 (by decide)).mpr hz))
    refine ⟨fun hc => ?_, fun hc => ?_⟩
    · replace H := H.1 ((eq_J rfl jl_1 q1 (by decide)).mp hc)
      obtain ⟨q11, q12, H⟩ := H
      refine ⟨fun hc => ?_, fun hc => ?_⟩
      · replace H := H.1 ((eq_J (in_J (congrArg Int32.toInt64 rfl) ll_0 (congrArg Int32.toInt64 (fld_J (jf_base _ _))) q11 (by decide) q12) jl_0 R_in (by decide)).mp hc)
        exact H.trans (rt_i jl_0 rfl)
      · replace H := H.2 (fun hz => hc ((eq_J (in_J (congrArg Int32.toInt64 rfl) ll_0 (congrArg Int32.toInt64 (fld_J (jf_base _ _))) q11 (by decide) q12) jl_0 R_in (by decide)).mpr hz))
        obtain ⟨q13, q14, H⟩ := H
        refine ⟨fun hc => ?_, fun hc => ?_⟩
        · replace H := H.1 ((eq_J (in_J (congrArg Int32.toInt64 rfl) ll_0 (congrArg Int32.toInt64 (sub_J (fld_J (jf_base _ _)) jl_1)) q13 (by decide) q14) jl_0 R_in (by decide)).mp hc)
          exact H.trans (rt_i jl_0 rfl)
        · replace H := H.2 (fun hz => hc ((eq_J (in_J (congrArg Int32.toInt64 rfl) ll_0 (congrArg Int32.toInt64 (sub_J (fld_J (jf_base _ _)) jl_1)) q13 (by decide) q14) jl_0 R_in (by decide)).mpr hz))
          exact H.trans (rt_i jl_1 rfl)
    · replace H := H.2 (fun hz => hc ((eq_J rfl jl_1 q1 (by decide)).mpr hz))
      exact H.trans (rt_i jl_0 rfl)
def G234 (N : NM) (x1 : Int) (x2 : Int) (x3 : Int) : Int := (if x3 = 0 then (if (if 0 ≤ x1 ∧ x1 ≤ (((N 59) 0) - 1) then (1 : Int) else 0) = 0 then (if x3 = 1 then (if (if 0 ≤ x1 ∧ x1 ≤ ((N 59) 0) then (1 : Int) else 0) = 0 then 0 else (if (if 0 ≤ x2 ∧ x2 ≤ (((N 59) 1) - 1) then (1 : Int) else 0) = 0 then 0 else 1)) else 0) else (if (if 0 ≤ x2 ∧ x2 ≤ ((N 59) 1) then (1 : Int) else 0) = 0 then (if x3 = 1 then (if (if 0 ≤ x1 ∧ x1 ≤ ((N 59) 0) then (1 : Int) else 0) = 0 then 0 else (if (if 0 ≤ x2 ∧ x2 ≤ (((N 59) 1) - 1) then (1 : Int) else 0) = 0 then 0 else 1)) else 0) else 1)) else (if x3 = 1 then (if (if 0 ≤ x1 ∧ x1 ≤ ((N 59) 0) then (1 : Int) else 0) = 0 then 0 else (if (if 0 ≤ x2 ∧ x2 ≤ (((N 59) 1) - 1) then (1 : Int) else 0) = 0 then 0 else 1)) else 0))
def Q234 (N : NM) (x1 : Int) (x2 : Int) (x3 : Int) : Prop := ((R x3) ∧ ((x3 = 0 → ((R x1) ∧ ((R (((N 59) 0) - 1)) ∧ (((if 0 ≤ x1 ∧ x1 ≤ (((N 59) 0) - 1) then (1 : Int) else 0) = 0 → ((x3 = 1 → ((R ((N 59) 0)) ∧ (((if 0 ≤ x1 ∧ x1 ≤ ((N 59) 0) then (1 : Int) else 0) = 0 → True) ∧ (¬ (if 0 ≤ x1 ∧ x1 ≤ ((N 59) 0) then (1 : Int) else 0) = 0 → ((R x2) ∧ ((R (((N 59) 1) - 1)) ∧ (((if 0 ≤ x2 ∧ x2 ≤ (((N 59) 1) - 1) then (1 : Int) else 0) = 0 → True) ∧ (¬ (if 0 ≤ x2 ∧ x2 ≤ (((N 59) 1) - 1) then (1 : Int) else 0) = 0 → True)))))))) ∧ (¬ x3 = 1 → True))) ∧ (¬ (if 0 ≤ x1 ∧ x1 ≤ (((N 59) 0) - 1) then (1 : Int) else 0) = 0 → ((R x2) ∧ ((R ((N 59) 1)) ∧ (((if 0 ≤ x2 ∧ x2 ≤ ((N 59) 1) then (1 : Int) else 0) = 0 → ((x3 = 1 → ((R ((N 59) 0)) ∧ (((if 0 ≤ x1 ∧ x1 ≤ ((N 59) 0) then (1 : Int) else 0) = 0 → True) ∧ (¬ (if 0 ≤ x1 ∧ x1 ≤ ((N 59) 0) then (1 : Int) else 0) = 0 → ((R (((N 59) 1) - 1)) ∧ (((if 0 ≤ x2 ∧ x2 ≤ (((N 59) 1) - 1) then (1 : Int) else 0) = 0 → True) ∧ (¬ (if 0 ≤ x2 ∧ x2 ≤ (((N 59) 1) - 1) then (1 : Int) else 0) = 0 → True))))))) ∧ (¬ x3 = 1 → True))) ∧ (¬ (if 0 ≤ x2 ∧ x2 ≤ ((N 59) 1) then (1 : Int) else 0) = 0 → True))))))))) ∧ (¬ x3 = 0 → ((x3 = 1 → ((R x1) ∧ ((R ((N 59) 0)) ∧ (((if 0 ≤ x1 ∧ x1 ≤ ((N 59) 0) then (1 : Int) else 0) = 0 → True) ∧ (¬ (if 0 ≤ x1 ∧ x1 ≤ ((N 59) 0) then (1 : Int) else 0) = 0 → ((R x2) ∧ ((R (((N 59) 1) - 1)) ∧ (((if 0 ≤ x2 ∧ x2 ≤ (((N 59) 1) - 1) then (1 : Int) else 0) = 0 → True) ∧ (¬ (if 0 ≤ x2 ∧ x2 ≤ (((N 59) 1) - 1) then (1 : Int) else 0) = 0 → True))))))))) ∧ (¬ x3 = 1 → True)))))
theorem t234 {N : NM} {x1 : Int} {x2 : Int} {x3 : Int} (H : Q234 N x1 x2 x3) : F234 (jm N) (J x1) (J x2) (J x3) = J (G234 N x1 x2 x3) := by
  unfold Q234 at H
  unfold F234 G234
  obtain ⟨q1, H⟩ := H
  refine ite_J (eq_J rfl jl_0 q1 (by decide)) (fun hc => ?_) (fun hc => ?_)
  · replace H := H.1 ((eq_J rfl jl_0 q1 (by decide)).mp hc)
    obtain ⟨q2, q3, H⟩ := H
    refine ite_J (eq_J (in_J (congrArg Int32.toInt64 rfl) ll_0 (congrArg Int32.toInt64 (sub_J (fld_J (jf_base _ _)) jl_1)) q2 (by decide) q3) jl_0 R_in (by decide)) (fun hc => ?_) (fun hc => ?_)
    · replace H := H.1 ((eq_J (in_J (congrArg Int32.toInt64 rfl) ll_0 (congrArg Int32.toInt64 (sub_J (fld_J (jf_base _ _)) jl_1)) q2 (by decide) q3) jl_0 R_in (by decide)).mp hc)
      refine ite_J (eq_J rfl jl_1 q1 (by decide)) (fun hc => ?_) (fun hc => ?_)
      · replace H := H.1 ((eq_J rfl jl_1 q1 (by decide)).mp hc)
        obtain ⟨q4, H⟩ := H
        refine ite_J (eq_J (in_J (congrArg Int32.toInt64 rfl) ll_0 (congrArg Int32.toInt64 (fld_J (jf_base _ _))) q2 (by decide) q4) jl_0 R_in (by decide)) (fun hc => ?_) (fun hc => ?_)
        · replace H := H.1 ((eq_J (in_J (congrArg Int32.toInt64 rfl) ll_0 (congrArg Int32.toInt64 (fld_J (jf_base _ _))) q2 (by decide) q4) jl_0 R_in (by decide)).mp hc)
          exact jl_0
        · replace H := H.2 (fun hz => hc ((eq_J (in_J (congrArg Int32.toInt64 rfl) ll_0 (congrArg Int32.toInt64 (fld_J (jf_base _ _))) q2 (by decide) q4) jl_0 R_in (by decide)).mpr hz))
          obtain ⟨q5, q6, H⟩ := H
          refine ite_J (eq_J (in_J (congrArg Int32.toInt64 rfl) ll_0 (congrArg Int32.toInt64 (sub_J (fld_J (jf_base _ _)) jl_1)) q5 (by decide) q6) jl_0 R_in (by decide)) (fun hc => ?_) (fun hc => ?_)
          · replace H := H.1 ((eq_J (in_J (congrArg Int32.toInt64 rfl) ll_0 (congrArg Int32.toInt64 (sub_J (fld_J (jf_base _ _)) jl_1)) q5 (by decide) q6) jl_0 R_in (by decide)).mp hc)
            exact jl_0
          · replace H := H.2 (fun hz => hc ((eq_J (in_J (congrArg Int32.toInt64 rfl) ll_0 (congrArg Int32.toInt64 (sub_J (fld_J (jf_base _ _)) jl_1)) q5 (by decide) q6) jl_0 R_in (by decide)).mpr hz))
            exact jl_1
      · replace H := H.2 (fun hz => hc ((eq_J rfl jl_1 q1 (by decide)).mpr hz))
        exact jl_0
    · replace H := H.2 (fun hz => hc ((eq_J (in_J (congrArg Int32.toInt64 rfl) ll_0 (congrArg Int32.toInt64 (sub_J (fld_J (jf_base _ _)) jl_1)) q2 (by decide) q3) jl_0 R_in (by decide)).mpr hz))
      obtain ⟨q7, q8, H⟩ := H
      refine ite_J (eq_J (in_J (congrArg Int32.toInt64 rfl) ll_0 (congrArg Int32.toInt64 (fld_J (jf_base _ _))) q7 (by decide) q8) jl_0 R_in (by decide)) (fun hc => ?_) (fun hc => ?_)
      · replace H := H.1 ((eq_J (in_J (congrArg Int32.toInt64 rfl) ll_0 (congrArg Int32.toInt64 (fld_J (jf_base _ _))) q7 (by decide) q8) jl_0 R_in (by decide)).mp hc)
        refine ite_J (eq_J rfl jl_1 q1 (by decide)) (fun hc => ?_) (fun hc => ?_)
        · replace H := H.1 ((eq_J rfl jl_1 q1 (by decide)).mp hc)
          obtain ⟨q9, H⟩ := H
          refine ite_J (eq_J (in_J (congrArg Int32.toInt64 rfl) ll_0 (congrArg Int32.toInt64 (fld_J (jf_base _ _))) q2 (by decide) q9) jl_0 R_in (by decide)) (fun hc => ?_) (fun hc => ?_)
          · replace H := H.1 ((eq_J (in_J (congrArg Int32.toInt64 rfl) ll_0 (congrArg Int32.toInt64 (fld_J (jf_base _ _))) q2 (by decide) q9) jl_0 R_in (by decide)).mp hc)
            exact jl_0
          · replace H := H.2 (fun hz => hc ((eq_J (in_J (congrArg Int32.toInt64 rfl) ll_0 (congrArg Int32.toInt64 (fld_J (jf_base _ _))) q2 (by decide) q9) jl_0 R_in (by decide)).mpr hz))
            obtain ⟨q10, H⟩ := H
            refine ite_J (eq_J (in_J (congrArg Int32.toInt64 rfl) ll_0 (congrArg Int32.toInt64 (sub_J (fld_J (jf_base _ _)) jl_1)) q7 (by decide) q10) jl_0 R_in (by decide)) (fun hc => ?_) (fun hc => ?_)
            · replace H := H.1 ((eq_J (in_J (congrArg Int32.toInt64 rfl) ll_0 (congrArg Int32.toInt64 (sub_J (fld_J (jf_base _ _)) jl_1)) q7 (by decide) q10) jl_0 R_in (by decide)).mp hc)
              exact jl_0
            · replace H := H.2 (fun hz => hc ((eq_J (in_J (congrArg Int32.toInt64 rfl) ll_0 (congrArg Int32.toInt64 (sub_J (fld_J (jf_base _ _)) jl_1)) q7 (by decide) q10) jl_0 R_in (by decide)).mpr hz))
              exact jl_1
        · replace H := H.2 (fun hz => hc ((eq_J rfl jl_1 q1 (by decide)).mpr hz))
          exact jl_0
      · replace H := H.2 (fun hz => hc ((eq_J (in_J (congrArg Int32.toInt64 rfl) ll_0 (congrArg Int32.toInt64 (fld_J (jf_base _ _))) q7 (by decide) q8) jl_0 R_in (by decide)).mpr hz))
        exact jl_1
  · replace H := H.2 (fun hz => hc ((eq_J rfl jl_0 q1 (by decide)).mpr hz))
    refine ite_J (eq_J rfl jl_1 q1 (by decide)) (fun hc => ?_) (fun hc => ?_)
    · replace H := H.1 ((eq_J rfl jl_1 q1 (by decide)).mp hc)
      obtain ⟨q11, q12, H⟩ := H
      refine ite_J (eq_J (in_J (congrArg Int32.toInt64 rfl) ll_0 (congrArg Int32.toInt64 (fld_J (jf_base _ _))) q11 (by decide) q12) jl_0 R_in (by decide)) (fun hc => ?_) (fun hc => ?_)
      · replace H := H.1 ((eq_J (in_J (congrArg Int32.toInt64 rfl) ll_0 (congrArg Int32.toInt64 (fld_J (jf_base _ _))) q11 (by decide) q12) jl_0 R_in (by decide)).mp hc)
        exact jl_0
      · replace H := H.2 (fun hz => hc ((eq_J (in_J (congrArg Int32.toInt64 rfl) ll_0 (congrArg Int32.toInt64 (fld_J (jf_base _ _))) q11 (by decide) q12) jl_0 R_in (by decide)).mpr hz))
        obtain ⟨q13, q14, H⟩ := H
        refine ite_J (eq_J (in_J (congrArg Int32.toInt64 rfl) ll_0 (congrArg Int32.toInt64 (sub_J (fld_J (jf_base _ _)) jl_1)) q13 (by decide) q14) jl_0 R_in (by decide)) (fun hc => ?_) (fun hc => ?_)
        · replace H := H.1 ((eq_J (in_J (congrArg Int32.toInt64 rfl) ll_0 (congrArg Int32.toInt64 (sub_J (fld_J (jf_base _ _)) jl_1)) q13 (by decide) q14) jl_0 R_in (by decide)).mp hc)
          exact jl_0
        · replace H := H.2 (fun hz => hc ((eq_J (in_J (congrArg Int32.toInt64 rfl) ll_0 (congrArg Int32.toInt64 (sub_J (fld_J (jf_base _ _)) jl_1)) q13 (by decide) q14) jl_0 R_in (by decide)).mpr hz))
          exact jl_1
    · replace H := H.2 (fun hz => hc ((eq_J rfl jl_1 q1 (by decide)).mpr hz))
      exact jl_0
theorem sz234 {E : gw_N} {N : NM} {x1 : Int} {x2 : Int} {x3 : Int} (H : Q234 N x1 x2 x3) : Rn 234 [.ref 59, .int (J x1), .int (J x2), .int (J x3)] (hs E (jm N)) (some (.int (J (G234 N x1 x2 x3)))) (hs E (jm N)) := by
  have h := s234 (E := E) (M := jm N) (x1 := J x1) (x2 := J x2) (x3 := J x3)
  rw [t234 H] at h
  exact h
-- 237 GlassWiresModel findCover ()V
theorem v237_0 {E : gw_N} {N : NM} {res : Option Value × gw_H}  (H : Ev 2 237 2 [some (.ref 59), some (.int (J 0)), none, none, none] [] (hs E (jm N)) res) : Ev 2 237 0 [some (.ref 59), none, none, none, none] [] (hs E (jm N)) res := by
  refine w237_0 ?_
  exact Ev_to (clx (cli jl_0 (clx (clx (clx rfl))))) rfl rfl H
theorem v237_2 {E : gw_N} {N : NM} {res : Option Value × gw_H} {x1 : Int} (H : ((R x1) ∧ (((162 : Int) ≤ x1 → Ev 2 237 24 [some (.ref 59), some (.int (J 0)), none, none, none] [] (hs E (jm N)) res) ∧ (¬ (162 : Int) ≤ x1 → ((0 ≤ x1 ∧ x1 < 162) ∧ Ev 2 237 2 [some (.ref 59), some (.int (J (x1 + 1))), none, none, none] [] (hs E (jm (upZ N 67 (updZ (N 67) x1 0)))) res))))) : Ev 2 237 2 [some (.ref 59), some (.int (J x1)), none, none, none] [] (hs E (jm N)) res := by
  refine w237_2 ?_
  obtain ⟨q1, H⟩ := H
  refine ⟨fun hc => ?_, fun hc => ?_⟩
  · replace H := H.1 ((le_J jl_162 rfl (by decide) q1).mp hc)
    exact Ev_to (clx (cli jl_0 (clx (clx (clx rfl))))) rfl rfl H
  · replace H := H.2 (fun hz => hc ((le_J jl_162 rfl (by decide) q1).mpr hz))
    obtain ⟨q2, H⟩ := H
    refine ⟨inb_J rfl q2 (by decide), ?_⟩
    exact Ev_to (clx (cli (add_J rfl jl_1) (clx (clx (clx rfl))))) rfl (jm_up rfl (jf_upd (jf_base _ _) rfl q2 (by decide) jl_0)) H
theorem v237_24 {E : gw_N} {N : NM} {res : Option Value × gw_H} {x1 : Int} (H : ((R ((N 59) 4)) ∧ ((R x1) ∧ ((((N 59) 4) ≤ x1 → res = (none, hs E (jm N))) ∧ (¬ ((N 59) 4) ≤ x1 → Ev 2 237 34 [some (.ref 59), some (.int (J x1)), some (.int (J 0)), none, none] [] (hs E (jm N)) res))))) : Ev 2 237 24 [some (.ref 59), some (.int (J x1)), none, none, none] [] (hs E (jm N)) res := by
  refine w237_24 ?_
  obtain ⟨q1, q2, H⟩ := H
  refine ⟨fun hc => ?_, fun hc => ?_⟩
  · replace H := H.1 ((le_J (fld_J (jf_base _ _)) rfl q1 q2).mp hc)
    exact H.trans (rt_n rfl)
  · replace H := H.2 (fun hz => hc ((le_J (fld_J (jf_base _ _)) rfl q1 q2).mpr hz))
    exact Ev_to (clx (cli rfl (cli jl_0 (clx (clx rfl))))) rfl rfl H
theorem v237_34 {E : gw_N} {N : NM} {res : Option Value × gw_H} {x1 : Int} {x2 : Int} (H : ((0 ≤ x1 ∧ x1 < 30) ∧ ((R ((N 63) x1)) ∧ ((R x2) ∧ ((((N 63) x1) ≤ x2 → Ev 2 237 24 [some (.ref 59), some (.int (J (x1 + 1))), none, none, none] [] (hs E (jm N)) res) ∧ (¬ ((N 63) x1) ≤ x2 → ((R ((N 64) x1)) ∧ ((((N 64) x1) = 0 → Ev 2 237 24 [some (.ref 59), some (.int (J (x1 + 1))), none, none, none] [] (hs E (jm N)) res) ∧ (¬ ((N 64) x1) = 0 → Ev 2 237 58 [some (.ref 59), some (.int (J x1)), some (.int (J x2)), some (.int (J 1)), some (.int (J 0))] [] (hs E (jm N)) res))))))))) : Ev 2 237 34 [some (.ref 59), some (.int (J x1)), some (.int (J x2)), none, none] [] (hs E (jm N)) res := by
  refine w237_34 ?_
  obtain ⟨q1, H⟩ := H
  refine ⟨inb_J rfl q1 (by decide), ?_⟩
  obtain ⟨q2, q3, H⟩ := H
  refine ⟨fun hc => ?_, fun hc => ?_⟩
  · replace H := H.1 ((le_J (rd_J (jf_base _ _) rfl q1 (by decide)) rfl q2 q3).mp hc)
    exact Ev_to (clx (cli (add_J rfl jl_1) (clx (clx (clx rfl))))) rfl rfl H
  · replace H := H.2 (fun hz => hc ((le_J (rd_J (jf_base _ _) rfl q1 (by decide)) rfl q2 q3).mpr hz))
    refine ⟨inb_J rfl q1 (by decide), ?_⟩
    obtain ⟨q4, H⟩ := H
    refine ⟨fun hc => ?_, fun hc => ?_⟩
    · replace H := H.1 ((eq_J (rd_J (jf_base _ _) rfl q1 (by decide)) jl_0 q4 (by decide)).mp hc)
      exact Ev_to (clx (cli (add_J rfl jl_1) (clx (clx (clx rfl))))) rfl rfl H
    · replace H := H.2 (fun hz => hc ((eq_J (rd_J (jf_base _ _) rfl q1 (by decide)) jl_0 q4 (by decide)).mpr hz))
      exact Ev_to (clx (cli rfl (cli rfl (cli jl_1 (cli jl_0 rfl))))) rfl rfl H
theorem v237_58 {E : gw_N} {N : NM} {res : Option Value × gw_H} {x1 : Int} {x2 : Int} {x3 : Int} {x4 : Int} (H : ((R x2) ∧ ((R x4) ∧ ((x2 ≤ x4 → ((Q223 N x1 x2) ∧ ((0 ≤ (G223 N x1 x2) ∧ (G223 N x1 x2) < 162) ∧ ((R x3) ∧ ((x3 = 0 → Ev 2 237 34 [some (.ref 59), some (.int (J x1)), some (.int (J (x2 + 1))), none, none] [] (hs E (jm (upZ N 67 (updZ (N 67) (G223 N x1 x2) (((N 67) (G223 N x1 x2)) + 0))))) res) ∧ (¬ x3 = 0 → Ev 2 237 34 [some (.ref 59), some (.int (J x1)), some (.int (J (x2 + 1))), none, none] [] (hs E (jm (upZ N 67 (updZ (N 67) (G223 N x1 x2) (((N 67) (G223 N x1 x2)) + 1))))) res)))))) ∧ (¬ x2 ≤ x4 → ((R x3) ∧ ((x3 = 0 → Ev 2 237 58 [some (.ref 59), some (.int (J x1)), some (.int (J x2)), some (.int (J 0)), some (.int (J (x4 + 1)))] [] (hs E (jm N)) res) ∧ (¬ x3 = 0 → ((Q223 N x1 x4) ∧ ((Q223 N x1 x2) ∧ ((R (G223 N x1 x4)) ∧ ((R (G223 N x1 x2)) ∧ (((G223 N x1 x4) = (G223 N x1 x2) → Ev 2 237 58 [some (.ref 59), some (.int (J x1)), some (.int (J x2)), some (.int (J 0)), some (.int (J (x4 + 1)))] [] (hs E (jm N)) res) ∧ (¬ (G223 N x1 x4) = (G223 N x1 x2) → Ev 2 237 58 [some (.ref 59), some (.int (J x1)), some (.int (J x2)), some (.int (J 1)), some (.int (J (x4 + 1)))] [] (hs E (jm N)) res)))))))))))))) : Ev 2 237 58 [some (.ref 59), some (.int (J x1)), some (.int (J x2)), some (.int (J x3)), some (.int (J x4))] [] (hs E (jm N)) res := by
  refine w237_58 ?_
  obtain ⟨q1, q2, H⟩ := H
  refine ⟨fun hc => ?_, fun hc => ?_⟩
  · replace H := H.1 ((le_J rfl rfl q1 q2).mp hc)
    obtain ⟨q3, H⟩ := H
    refine ⟨Eq.mpr (congr (congr (congrArg P223 rfl) rfl) rfl) (p223 q3), ?_⟩
    obtain ⟨q4, H⟩ := H
    refine ⟨inb_J ((congr (congr (congrArg F223 rfl) rfl) rfl).trans (t223 q3)) q4 (by decide), ?_⟩
    obtain ⟨q5, H⟩ := H
    refine ⟨fun hc => ?_, fun hc => ?_⟩
    · replace H := H.1 ((eq_J rfl jl_0 q5 (by decide)).mp hc)
      refine ⟨inb_J ((congr (congr (congrArg F223 rfl) rfl) rfl).trans (t223 q3)) q4 (by decide), ?_⟩
      exact Ev_to (clx (cli rfl (cli (add_J rfl jl_1) (clx (clx rfl))))) rfl (jm_up rfl (jf_upd (jf_base _ _) ((congr (congr (congrArg F223 rfl) rfl) rfl).trans (t223 q3)) q4 (by decide) (add_J (rd_J (jf_base _ _) ((congr (congr (congrArg F223 rfl) rfl) rfl).trans (t223 q3)) q4 (by decide)) jl_0))) H
    · replace H := H.2 (fun hz => hc ((eq_J rfl jl_0 q5 (by decide)).mpr hz))
      refine ⟨inb_J ((congr (congr (congrArg F223 rfl) rfl) rfl).trans (t223 q3)) q4 (by decide), ?_⟩
      exact Ev_to (clx (cli rfl (cli (add_J rfl jl_1) (clx (clx rfl))))) rfl (jm_up rfl (jf_upd (jf_base _ _) ((congr (congr (congrArg F223 rfl) rfl) rfl).trans (t223 q3)) q4 (by decide) (add_J (rd_J (jf_base _ _) ((congr (congr (congrArg F223 rfl) rfl) rfl).trans (t223 q3)) q4 (by decide)) jl_1))) H
  · replace H := H.2 (fun hz => hc ((le_J rfl rfl q1 q2).mpr hz))
    obtain ⟨q6, H⟩ := H
    refine ⟨fun hc => ?_, fun hc => ?_⟩
    · replace H := H.1 ((eq_J rfl jl_0 q6 (by decide)).mp hc)
      exact Ev_to (clx (cli rfl (cli rfl (cli jl_0 (cli (add_J rfl jl_1) rfl))))) rfl rfl H
    · replace H := H.2 (fun hz => hc ((eq_J rfl jl_0 q6 (by decide)).mpr hz))
      obtain ⟨q7, H⟩ := H
      refine ⟨Eq.mpr (congr (congr (congrArg P223 rfl) rfl) rfl) (p223 q7), ?_⟩
      obtain ⟨q8, H⟩ := H
      refine ⟨Eq.mpr (congr (congr (congrArg P223 rfl) rfl) rfl) (p223 q8), ?_⟩
      obtain ⟨q9, q10, H⟩ := H
      refine ⟨fun hc => ?_, fun hc => ?_⟩
      · replace H := H.1 ((eq_J ((congr (congr (congrArg F223 rfl) rfl) rfl).trans (t223 q7)) ((congr (congr (congrArg F223 rfl) rfl) rfl).trans (t223 q8)) q9 q10).mp hc)
        exact Ev_to (clx (cli rfl (cli rfl (cli jl_0 (cli (add_J rfl jl_1) rfl))))) rfl rfl H
      · replace H := H.2 (fun hz => hc ((eq_J ((congr (congr (congrArg F223 rfl) rfl) rfl).trans (t223 q7)) ((congr (congr (congrArg F223 rfl) rfl) rfl).trans (t223 q8)) q9 q10).mpr hz))
        exact Ev_to (clx (cli rfl (cli rfl (cli jl_1 (cli (add_J rfl jl_1) rfl))))) rfl rfl H
-- 241 GlassWiresModel isJoint (II)Z
theorem v241_0 {E : gw_N} {N : NM} {res : Option Value × gw_H} {x1 : Int} {x2 : Int} (H : Ev 2 241 5 [some (.ref 59), some (.int (J x1)), some (.int (J x2)), some (.int (J 0)), some (.int (J 0))] [] (hs E (jm N)) res) : Ev 2 241 0 [some (.ref 59), some (.int (J x1)), some (.int (J x2)), none, none] [] (hs E (jm N)) res := by
  refine w241_0 ?_
  exact Ev_to (clx (cli rfl (cli rfl (cli jl_0 (cli jl_0 rfl))))) rfl rfl H
theorem v241_5 {E : gw_N} {N : NM} {res : Option Value × gw_H} {x1 : Int} {x2 : Int} {x3 : Int} {x4 : Int} (H : ((R ((N 59) 4)) ∧ ((R x4) ∧ ((((N 59) 4) ≤ x4 → ((R x3) ∧ ((x3 ≤ 1 → res = (some (.int (J 0)), hs E (jm N))) ∧ (¬ x3 ≤ 1 → res = (some (.int (J 1)), hs E (jm N)))))) ∧ (¬ ((N 59) 4) ≤ x4 → ((0 ≤ x4 ∧ x4 < 30) ∧ ((R ((N 64) x4)) ∧ ((((N 64) x4) = 0 → Ev 2 241 5 [some (.ref 59), some (.int (J x1)), some (.int (J x2)), some (.int (J (x3 + 0))), some (.int (J (x4 + 1)))] [] (hs E (jm N)) res) ∧ (¬ ((N 64) x4) = 0 → (∃ (r1 : Int), Rn 228 [.ref 59, .int (J x4), .int (J x1), .int (J x2)] (hs E (jm N)) (some (.int (J r1))) (hs E (jm N)) ∧ ((R r1) ∧ ((r1 = 0 → Ev 2 241 5 [some (.ref 59), some (.int (J x1)), some (.int (J x2)), some (.int (J (x3 + 0))), some (.int (J (x4 + 1)))] [] (hs E (jm N)) res) ∧ (¬ r1 = 0 → Ev 2 241 5 [some (.ref 59), some (.int (J x1)), some (.int (J x2)), some (.int (J (x3 + 1))), some (.int (J (x4 + 1)))] [] (hs E (jm N)) res))))))))))))) : Ev 2 241 5 [some (.ref 59), some (.int (J x1)), some (.int (J x2)), some (.int (J x3)), some (.int (J x4))] [] (hs E (jm N)) res := by
  refine w241_5 ?_
  obtain ⟨q1, q2, H⟩ := H
  refine ⟨fun hc => ?_, fun hc => ?_⟩
  · replace H := H.1 ((le_J (fld_J (jf_base _ _)) rfl q1 q2).mp hc)
    obtain ⟨q3, H⟩ := H
    refine ⟨fun hc => ?_, fun hc => ?_⟩
    · replace H := H.1 ((le_J rfl jl_1 q3 (by decide)).mp hc)
      exact H.trans (rt_i jl_0 rfl)
    · replace H := H.2 (fun hz => hc ((le_J rfl jl_1 q3 (by decide)).mpr hz))
      exact H.trans (rt_i jl_1 rfl)
  · replace H := H.2 (fun hz => hc ((le_J (fld_J (jf_base _ _)) rfl q1 q2).mpr hz))
    obtain ⟨q4, H⟩ := H
    refine ⟨inb_J rfl q4 (by decide), ?_⟩
    obtain ⟨q5, H⟩ := H
    refine ⟨fun hc => ?_, fun hc => ?_⟩
    · replace H := H.1 ((eq_J (rd_J (jf_base _ _) rfl q4 (by decide)) jl_0 q5 (by decide)).mp hc)
      exact Ev_to (clx (cli rfl (cli rfl (cli (add_J rfl jl_0) (cli (add_J rfl jl_1) rfl))))) rfl rfl H
    · replace H := H.2 (fun hz => hc ((eq_J (rd_J (jf_base _ _) rfl q4 (by decide)) jl_0 q5 (by decide)).mpr hz))
      obtain ⟨r1, q7, H⟩ := H
      refine ⟨J r1, Rn_to (clx (cai rfl (cai rfl (cai rfl rfl)))) rfl rfl q7, ?_⟩
      obtain ⟨q6, H⟩ := H
      refine ⟨fun hc => ?_, fun hc => ?_⟩
      · replace H := H.1 ((eq_J rfl jl_0 q6 (by decide)).mp hc)
        exact Ev_to (clx (cli rfl (cli rfl (cli (add_J rfl jl_0) (cli (add_J rfl jl_1) rfl))))) rfl rfl H
      · replace H := H.2 (fun hz => hc ((eq_J rfl jl_0 q6 (by decide)).mpr hz))
        exact Ev_to (clx (cli rfl (cli rfl (cli (add_J rfl jl_1) (cli (add_J rfl jl_1) rfl))))) rfl rfl H
-- 244 GlassWiresModel isField (II)Z
theorem v244_0 {E : gw_N} {N : NM} {res : Option Value × gw_H} {x1 : Int} {x2 : Int} (H : ((R x1) ∧ ((R (((N 59) 0) - 1)) ∧ (((if 0 ≤ x1 ∧ x1 ≤ (((N 59) 0) - 1) then (1 : Int) else 0) = 0 → res = (some (.int (J 0)), hs E (jm N))) ∧ (¬ (if 0 ≤ x1 ∧ x1 ≤ (((N 59) 0) - 1) then (1 : Int) else 0) = 0 → ((R x2) ∧ ((R (((N 59) 1) - 1)) ∧ (((if 0 ≤ x2 ∧ x2 ≤ (((N 59) 1) - 1) then (1 : Int) else 0) = 0 → res = (some (.int (J 0)), hs E (jm N))) ∧ (¬ (if 0 ≤ x2 ∧ x2 ≤ (((N 59) 1) - 1) then (1 : Int) else 0) = 0 → res = (some (.int (J 1)), hs E (jm N))))))))))) : Ev 2 244 0 [some (.ref 59), some (.int (J x1)), some (.int (J x2))] [] (hs E (jm N)) res := by
  refine w244_0 ?_
  obtain ⟨q1, q2, H⟩ := H
  refine ⟨fun hc => ?_, fun hc => ?_⟩
  · replace H := H.1 ((eq_J (in_J (congrArg Int32.toInt64 rfl) ll_0 (congrArg Int32.toInt64 (sub_J (fld_J (jf_base _ _)) jl_1)) q1 (by decide) q2) jl_0 R_in (by decide)).mp hc)
    exact H.trans (rt_i jl_0 rfl)
  · replace H := H.2 (fun hz => hc ((eq_J (in_J (congrArg Int32.toInt64 rfl) ll_0 (congrArg Int32.toInt64 (sub_J (fld_J (jf_base _ _)) jl_1)) q1 (by decide) q2) jl_0 R_in (by decide)).mpr hz))
    obtain ⟨q3, q4, H⟩ := H
    refine ⟨fun hc => ?_, fun hc => ?_⟩
    · replace H := H.1 ((eq_J (in_J (congrArg Int32.toInt64 rfl) ll_0 (congrArg Int32.toInt64 (sub_J (fld_J (jf_base _ _)) jl_1)) q3 (by decide) q4) jl_0 R_in (by decide)).mp hc)
      exact H.trans (rt_i jl_0 rfl)
    · replace H := H.2 (fun hz => hc ((eq_J (in_J (congrArg Int32.toInt64 rfl) ll_0 (congrArg Int32.toInt64 (sub_J (fld_J (jf_base _ _)) jl_1)) q3 (by decide) q4) jl_0 R_in (by decide)).mpr hz))
      exact H.trans (rt_i jl_1 rfl)
def G244 (N : NM) (x1 : Int) (x2 : Int) : Int := (if (if 0 ≤ x1 ∧ x1 ≤ (((N 59) 0) - 1) then (1 : Int) else 0) = 0 then 0 else (if (if 0 ≤ x2 ∧ x2 ≤ (((N 59) 1) - 1) then (1 : Int) else 0) = 0 then 0 else 1))
def Q244 (N : NM) (x1 : Int) (x2 : Int) : Prop := ((R x1) ∧ ((R (((N 59) 0) - 1)) ∧ (((if 0 ≤ x1 ∧ x1 ≤ (((N 59) 0) - 1) then (1 : Int) else 0) = 0 → True) ∧ (¬ (if 0 ≤ x1 ∧ x1 ≤ (((N 59) 0) - 1) then (1 : Int) else 0) = 0 → ((R x2) ∧ ((R (((N 59) 1) - 1)) ∧ (((if 0 ≤ x2 ∧ x2 ≤ (((N 59) 1) - 1) then (1 : Int) else 0) = 0 → True) ∧ (¬ (if 0 ≤ x2 ∧ x2 ≤ (((N 59) 1) - 1) then (1 : Int) else 0) = 0 → True))))))))
theorem t244 {N : NM} {x1 : Int} {x2 : Int} (H : Q244 N x1 x2) : F244 (jm N) (J x1) (J x2) = J (G244 N x1 x2) := by
  unfold Q244 at H
  unfold F244 G244
  obtain ⟨q1, q2, H⟩ := H
  refine ite_J (eq_J (in_J (congrArg Int32.toInt64 rfl) ll_0 (congrArg Int32.toInt64 (sub_J (fld_J (jf_base _ _)) jl_1)) q1 (by decide) q2) jl_0 R_in (by decide)) (fun hc => ?_) (fun hc => ?_)
  · replace H := H.1 ((eq_J (in_J (congrArg Int32.toInt64 rfl) ll_0 (congrArg Int32.toInt64 (sub_J (fld_J (jf_base _ _)) jl_1)) q1 (by decide) q2) jl_0 R_in (by decide)).mp hc)
    exact jl_0
  · replace H := H.2 (fun hz => hc ((eq_J (in_J (congrArg Int32.toInt64 rfl) ll_0 (congrArg Int32.toInt64 (sub_J (fld_J (jf_base _ _)) jl_1)) q1 (by decide) q2) jl_0 R_in (by decide)).mpr hz))
    obtain ⟨q3, q4, H⟩ := H
    refine ite_J (eq_J (in_J (congrArg Int32.toInt64 rfl) ll_0 (congrArg Int32.toInt64 (sub_J (fld_J (jf_base _ _)) jl_1)) q3 (by decide) q4) jl_0 R_in (by decide)) (fun hc => ?_) (fun hc => ?_)
    · replace H := H.1 ((eq_J (in_J (congrArg Int32.toInt64 rfl) ll_0 (congrArg Int32.toInt64 (sub_J (fld_J (jf_base _ _)) jl_1)) q3 (by decide) q4) jl_0 R_in (by decide)).mp hc)
      exact jl_0
    · replace H := H.2 (fun hz => hc ((eq_J (in_J (congrArg Int32.toInt64 rfl) ll_0 (congrArg Int32.toInt64 (sub_J (fld_J (jf_base _ _)) jl_1)) q3 (by decide) q4) jl_0 R_in (by decide)).mpr hz))
      exact jl_1
theorem sz244 {E : gw_N} {N : NM} {x1 : Int} {x2 : Int} (H : Q244 N x1 x2) : Rn 244 [.ref 59, .int (J x1), .int (J x2)] (hs E (jm N)) (some (.int (J (G244 N x1 x2)))) (hs E (jm N)) := by
  have h := s244 (E := E) (M := jm N) (x1 := J x1) (x2 := J x2)
  rw [t244 H] at h
  exact h
-- 246 GlassWiresModel between (II)I
theorem v246_0 {E : gw_N} {N : NM} {res : Option Value × gw_H} {x1 : Int} {x2 : Int} (H : ((R x2) ∧ ((x2 = 0 → ((R ((N 59) 0)) ∧ ((0 < ((N 59) 0)) ∧ ((R x1) ∧ res = (some (.int (J (G235 N ((Int.tmod x1 ((N 59) 0)) + 1) (Int.tdiv x1 ((N 59) 0)) 1))), hs E (jm N)))))) ∧ (¬ x2 = 0 → ((R ((N 59) 0)) ∧ ((0 < ((N 59) 0)) ∧ ((R x1) ∧ res = (some (.int (J (G235 N (Int.tmod x1 ((N 59) 0)) ((Int.tdiv x1 ((N 59) 0)) + 1) 0))), hs E (jm N))))))))) : Ev 2 246 0 [some (.ref 59), some (.int (J x1)), some (.int (J x2))] [] (hs E (jm N)) res := by
  refine w246_0 ?_
  obtain ⟨q1, H⟩ := H
  refine ⟨fun hc => ?_, fun hc => ?_⟩
  · replace H := H.1 ((eq_J rfl jl_0 q1 (by decide)).mp hc)
    obtain ⟨q2, q3, H⟩ := H
    refine ⟨nz_J (fld_J (jf_base _ _)) q2 q3, ?_⟩
    refine ⟨nz_J (fld_J (jf_base _ _)) q2 q3, ?_⟩
    obtain ⟨q4, H⟩ := H
    exact H.trans (rt_i ((congr (congr (congr (congrArg F235 rfl) (add_J (rem_J rfl (fld_J (jf_base _ _)) q4 q2 q3) jl_1)) (div_J rfl (fld_J (jf_base _ _)) q4 q2 q3)) jl_1).trans (t235)) rfl)
  · replace H := H.2 (fun hz => hc ((eq_J rfl jl_0 q1 (by decide)).mpr hz))
    obtain ⟨q5, q6, H⟩ := H
    refine ⟨nz_J (fld_J (jf_base _ _)) q5 q6, ?_⟩
    refine ⟨nz_J (fld_J (jf_base _ _)) q5 q6, ?_⟩
    obtain ⟨q7, H⟩ := H
    exact H.trans (rt_i ((congr (congr (congr (congrArg F235 rfl) (rem_J rfl (fld_J (jf_base _ _)) q7 q5 q6)) (add_J (div_J rfl (fld_J (jf_base _ _)) q7 q5 q6) jl_1)) jl_0).trans (t235)) rfl)
def G246 (N : NM) (x1 : Int) (x2 : Int) : Int := (if x2 = 0 then (G235 N ((Int.tmod x1 ((N 59) 0)) + 1) (Int.tdiv x1 ((N 59) 0)) 1) else (G235 N (Int.tmod x1 ((N 59) 0)) ((Int.tdiv x1 ((N 59) 0)) + 1) 0))
def Q246 (N : NM) (x1 : Int) (x2 : Int) : Prop := ((R x2) ∧ ((x2 = 0 → ((R ((N 59) 0)) ∧ ((0 < ((N 59) 0)) ∧ ((R x1) ∧ True)))) ∧ (¬ x2 = 0 → ((R ((N 59) 0)) ∧ ((0 < ((N 59) 0)) ∧ ((R x1) ∧ True))))))
theorem t246 {N : NM} {x1 : Int} {x2 : Int} (H : Q246 N x1 x2) : F246 (jm N) (J x1) (J x2) = J (G246 N x1 x2) := by
  unfold Q246 at H
  unfold F246 G246
  obtain ⟨q1, H⟩ := H
  refine ite_J (eq_J rfl jl_0 q1 (by decide)) (fun hc => ?_) (fun hc => ?_)
  · replace H := H.1 ((eq_J rfl jl_0 q1 (by decide)).mp hc)
    obtain ⟨q2, q3, H⟩ := H
    obtain ⟨q4, H⟩ := H
    exact ((congr (congr (congr (congrArg F235 rfl) (add_J (rem_J rfl (fld_J (jf_base _ _)) q4 q2 q3) jl_1)) (div_J rfl (fld_J (jf_base _ _)) q4 q2 q3)) jl_1).trans (t235))
  · replace H := H.2 (fun hz => hc ((eq_J rfl jl_0 q1 (by decide)).mpr hz))
    obtain ⟨q5, q6, H⟩ := H
    obtain ⟨q7, H⟩ := H
    exact ((congr (congr (congr (congrArg F235 rfl) (rem_J rfl (fld_J (jf_base _ _)) q7 q5 q6)) (add_J (div_J rfl (fld_J (jf_base _ _)) q7 q5 q6) jl_1)) jl_0).trans (t235))
theorem p246 {N : NM} {x1 : Int} {x2 : Int} (H : Q246 N x1 x2) : P246 (jm N) (J x1) (J x2) := by
  unfold Q246 at H
  unfold P246
  obtain ⟨q1, H⟩ := H
  refine ⟨fun hc => ?_, fun hc => ?_⟩
  · replace H := H.1 ((eq_J rfl jl_0 q1 (by decide)).mp hc)
    obtain ⟨q2, q3, H⟩ := H
    refine ⟨nz_J (fld_J (jf_base _ _)) q2 q3, ?_⟩
    exact nz_J (fld_J (jf_base _ _)) q2 q3
  · replace H := H.2 (fun hz => hc ((eq_J rfl jl_0 q1 (by decide)).mpr hz))
    obtain ⟨q4, q5, H⟩ := H
    refine ⟨nz_J (fld_J (jf_base _ _)) q4 q5, ?_⟩
    exact nz_J (fld_J (jf_base _ _)) q4 q5
theorem sz246 {E : gw_N} {N : NM} {x1 : Int} {x2 : Int} (H : Q246 N x1 x2) : Rn 246 [.ref 59, .int (J x1), .int (J x2)] (hs E (jm N)) (some (.int (J (G246 N x1 x2)))) (hs E (jm N)) := by
  have h := s246 (E := E) (M := jm N) (x1 := J x1) (x2 := J x2) (p246 H)
  rw [t246 H] at h
  exact h
-- 249 GlassWiresModel sizeOf (I)I
theorem v249_0 {E : gw_N} {N : NM} {res : Option Value × gw_H} {x1 : Int} (H : Ev 2 249 4 [some (.ref 59), some (.int (J x1)), some (.int (J 0)), some (.int (J 0))] [] (hs E (jm N)) res) : Ev 2 249 0 [some (.ref 59), some (.int (J x1)), none, none] [] (hs E (jm N)) res := by
  refine w249_0 ?_
  exact Ev_to (clx (cli rfl (cli jl_0 (cli jl_0 rfl)))) rfl rfl H
theorem v249_4 {E : gw_N} {N : NM} {res : Option Value × gw_H} {x1 : Int} {x2 : Int} {x3 : Int} (H : ((R (G243 N)) ∧ ((R x3) ∧ (((G243 N) ≤ x3 → res = (some (.int (J x2)), hs E (jm N))) ∧ (¬ (G243 N) ≤ x3 → ((0 ≤ x3 ∧ x3 < 64) ∧ ((R ((N 69) x3)) ∧ ((R x1) ∧ ((((N 69) x3) = x1 → Ev 2 249 4 [some (.ref 59), some (.int (J x1)), some (.int (J (x2 + 1))), some (.int (J (x3 + 1)))] [] (hs E (jm N)) res) ∧ (¬ ((N 69) x3) = x1 → Ev 2 249 4 [some (.ref 59), some (.int (J x1)), some (.int (J (x2 + 0))), some (.int (J (x3 + 1)))] [] (hs E (jm N)) res)))))))))) : Ev 2 249 4 [some (.ref 59), some (.int (J x1)), some (.int (J x2)), some (.int (J x3))] [] (hs E (jm N)) res := by
  refine w249_4 ?_
  obtain ⟨q1, q2, H⟩ := H
  refine ⟨fun hc => ?_, fun hc => ?_⟩
  · replace H := H.1 ((le_J ((congrArg F243 rfl).trans (t243)) rfl q1 q2).mp hc)
    exact H.trans (rt_i rfl rfl)
  · replace H := H.2 (fun hz => hc ((le_J ((congrArg F243 rfl).trans (t243)) rfl q1 q2).mpr hz))
    obtain ⟨q3, H⟩ := H
    refine ⟨inb_J rfl q3 (by decide), ?_⟩
    obtain ⟨q4, q5, H⟩ := H
    refine ⟨fun hc => ?_, fun hc => ?_⟩
    · replace H := H.1 ((eq_J (rd_J (jf_base _ _) rfl q3 (by decide)) rfl q4 q5).mp hc)
      exact Ev_to (clx (cli rfl (cli (add_J rfl jl_1) (cli (add_J rfl jl_1) rfl)))) rfl rfl H
    · replace H := H.2 (fun hz => hc ((eq_J (rd_J (jf_base _ _) rfl q3 (by decide)) rfl q4 q5).mpr hz))
      exact Ev_to (clx (cli rfl (cli (add_J rfl jl_0) (cli (add_J rfl jl_1) rfl)))) rfl rfl H
-- 257 GlassWiresModel paintBy (I)Z
theorem v257_0 {E : gw_N} {N : NM} {res : Option Value × gw_H} {x1 : Int} (H : Ev 2 257 9 [some (.ref 59), some (.int (J x1)), some (.int (J 0))] [] (hs E (jm (upZ N 72 (updZ (N 72) 0 0)))) res) : Ev 2 257 0 [some (.ref 59), some (.int (J x1)), none] [] (hs E (jm N)) res := by
  refine w257_0 ?_
  refine ⟨inb_J jl_0 (by decide : (0 : Int) ≤ 0 ∧ (0 : Int) < 10) (by decide), ?_⟩
  exact Ev_to (clx (cli rfl (cli jl_0 rfl))) rfl (jm_up rfl (jf_upd (jf_base _ _) jl_0 (by decide : (0 : Int) ≤ 0 ∧ (0 : Int) < 10) (by decide) jl_0)) H
theorem v257_9 {E : gw_N} {N : NM} {res : Option Value × gw_H} {x1 : Int} {x2 : Int} (H : ((R x2) ∧ ((x2 < 0 → ((x2 < 0 → res = (some (.int (J 0)), hs E (jm N))) ∧ (¬ x2 < 0 → res = (some (.int (J 1)), hs E (jm N))))) ∧ (¬ x2 < 0 → ((R ((N 59) 15)) ∧ ((((N 59) 15) ≤ x2 → ((x2 < 0 → res = (some (.int (J 0)), hs E (jm N))) ∧ (¬ x2 < 0 → res = (some (.int (J 1)), hs E (jm N))))) ∧ (¬ ((N 59) 15) ≤ x2 → Ev 2 257 21 [some (.ref 59), some (.int (J x1)), some (.int (J x2))] [] (hs E (jm N)) res))))))) : Ev 2 257 9 [some (.ref 59), some (.int (J x1)), some (.int (J x2))] [] (hs E (jm N)) res := by
  refine w257_9 ?_
  obtain ⟨q1, H⟩ := H
  refine ⟨fun hc => ?_, fun hc => ?_⟩
  · replace H := H.1 ((lt_J rfl jl_0 q1 (by decide)).mp hc)
    refine ⟨fun hc => ?_, fun hc => ?_⟩
    · replace H := H.1 ((lt_J rfl jl_0 q1 (by decide)).mp hc)
      exact H.trans (rt_i jl_0 rfl)
    · replace H := H.2 (fun hz => hc ((lt_J rfl jl_0 q1 (by decide)).mpr hz))
      exact H.trans (rt_i jl_1 rfl)
  · replace H := H.2 (fun hz => hc ((lt_J rfl jl_0 q1 (by decide)).mpr hz))
    obtain ⟨q2, H⟩ := H
    refine ⟨fun hc => ?_, fun hc => ?_⟩
    · replace H := H.1 ((le_J (fld_J (jf_base _ _)) rfl q2 q1).mp hc)
      refine ⟨fun hc => ?_, fun hc => ?_⟩
      · replace H := H.1 ((lt_J rfl jl_0 q1 (by decide)).mp hc)
        exact H.trans (rt_i jl_0 rfl)
      · replace H := H.2 (fun hz => hc ((lt_J rfl jl_0 q1 (by decide)).mpr hz))
        exact H.trans (rt_i jl_1 rfl)
    · replace H := H.2 (fun hz => hc ((le_J (fld_J (jf_base _ _)) rfl q2 q1).mpr hz))
      exact Ev_to (clx (cli rfl (cli rfl rfl))) rfl rfl H
theorem v257_21 {E : gw_N} {N : NM} {res : Option Value × gw_H} {x1 : Int} {x2 : Int} (H : ((0 ≤ x2 ∧ x2 < 10) ∧ ((R x1) ∧ ((R ((N 72) x2)) ∧ ((x1 ≤ ((N 72) x2) → ((x1 ≤ ((N 72) x2) → ((R (x2 + (-1))) ∧ (((x2 + (-1)) < 0 → Ev 2 257 9 [some (.ref 59), some (.int (J x1)), some (.int (J (x2 + (-1))))] [] (hs E (jm N)) res) ∧ (¬ (x2 + (-1)) < 0 → ((0 ≤ (x2 + (-1)) ∧ (x2 + (-1)) < 10) ∧ Ev 2 257 9 [some (.ref 59), some (.int (J x1)), some (.int (J (x2 + (-1))))] [] (hs E (jm (upZ N 72 (updZ (N 72) (x2 + (-1)) (((N 72) (x2 + (-1))) + 1))))) res))))) ∧ (¬ x1 ≤ ((N 72) x2) → ((R ((N 59) 15)) ∧ ((R (x2 + 1)) ∧ ((((N 59) 15) ≤ (x2 + 1) → Ev 2 257 9 [some (.ref 59), some (.int (J x1)), some (.int (J (x2 + 1)))] [] (hs E (jm N)) res) ∧ (¬ ((N 59) 15) ≤ (x2 + 1) → ((0 ≤ (x2 + 1) ∧ (x2 + 1) < 10) ∧ Ev 2 257 9 [some (.ref 59), some (.int (J x1)), some (.int (J (x2 + 1)))] [] (hs E (jm (upZ N 72 (updZ (N 72) (x2 + 1) 0)))) res)))))))) ∧ (¬ x1 ≤ ((N 72) x2) → (∃ (r1 : Int), Rn 256 [.ref 59, .int (J x2)] (hs E (jm N)) (some (.int (J r1))) (hs E (jm N)) ∧ ((R r1) ∧ ((r1 = 0 → ((x1 ≤ ((N 72) x2) → ((R (x2 + (-1))) ∧ (((x2 + (-1)) < 0 → Ev 2 257 9 [some (.ref 59), some (.int (J x1)), some (.int (J (x2 + (-1))))] [] (hs E (jm N)) res) ∧ (¬ (x2 + (-1)) < 0 → ((0 ≤ (x2 + (-1)) ∧ (x2 + (-1)) < 10) ∧ Ev 2 257 9 [some (.ref 59), some (.int (J x1)), some (.int (J (x2 + (-1))))] [] (hs E (jm (upZ N 72 (updZ (N 72) (x2 + (-1)) (((N 72) (x2 + (-1))) + 1))))) res))))) ∧ (¬ x1 ≤ ((N 72) x2) → ((R ((N 59) 15)) ∧ ((R (x2 + 1)) ∧ ((((N 59) 15) ≤ (x2 + 1) → Ev 2 257 9 [some (.ref 59), some (.int (J x1)), some (.int (J (x2 + 1)))] [] (hs E (jm N)) res) ∧ (¬ ((N 59) 15) ≤ (x2 + 1) → ((0 ≤ (x2 + 1) ∧ (x2 + 1) < 10) ∧ Ev 2 257 9 [some (.ref 59), some (.int (J x1)), some (.int (J (x2 + 1)))] [] (hs E (jm (upZ N 72 (updZ (N 72) (x2 + 1) 0)))) res)))))))) ∧ (¬ r1 = 0 → Ev 2 257 21 [some (.ref 59), some (.int (J x1)), some (.int (J x2))] [] (hs E (jm (upZ N 72 (updZ (N 72) x2 (((N 72) x2) + 1))))) res)))))))))) : Ev 2 257 21 [some (.ref 59), some (.int (J x1)), some (.int (J x2))] [] (hs E (jm N)) res := by
  refine w257_21 ?_
  obtain ⟨q1, H⟩ := H
  refine ⟨inb_J rfl q1 (by decide), ?_⟩
  obtain ⟨q2, q3, H⟩ := H
  refine ⟨fun hc => ?_, fun hc => ?_⟩
  · replace H := H.1 ((le_J rfl (rd_J (jf_base _ _) rfl q1 (by decide)) q2 q3).mp hc)
    refine ⟨inb_J rfl q1 (by decide), ?_⟩
    refine ⟨fun hc => ?_, fun hc => ?_⟩
    · replace H := H.1 ((le_J rfl (rd_J (jf_base _ _) rfl q1 (by decide)) q2 q3).mp hc)
      obtain ⟨q4, H⟩ := H
      refine ⟨fun hc => ?_, fun hc => ?_⟩
      · replace H := H.1 ((lt_J (add_J rfl jl_m1) jl_0 q4 (by decide)).mp hc)
        exact Ev_to (clx (cli rfl (cli (add_J rfl jl_m1) rfl))) rfl rfl H
      · replace H := H.2 (fun hz => hc ((lt_J (add_J rfl jl_m1) jl_0 q4 (by decide)).mpr hz))
        obtain ⟨q5, H⟩ := H
        refine ⟨inb_J (add_J rfl jl_m1) q5 (by decide), ?_⟩
        refine ⟨inb_J (add_J rfl jl_m1) q5 (by decide), ?_⟩
        exact Ev_to (clx (cli rfl (cli (add_J rfl jl_m1) rfl))) rfl (jm_up rfl (jf_upd (jf_base _ _) (add_J rfl jl_m1) q5 (by decide) (add_J (rd_J (jf_base _ _) (add_J rfl jl_m1) q5 (by decide)) jl_1))) H
    · replace H := H.2 (fun hz => hc ((le_J rfl (rd_J (jf_base _ _) rfl q1 (by decide)) q2 q3).mpr hz))
      obtain ⟨q6, q7, H⟩ := H
      refine ⟨fun hc => ?_, fun hc => ?_⟩
      · replace H := H.1 ((le_J (fld_J (jf_base _ _)) (add_J rfl jl_1) q6 q7).mp hc)
        exact Ev_to (clx (cli rfl (cli (add_J rfl jl_1) rfl))) rfl rfl H
      · replace H := H.2 (fun hz => hc ((le_J (fld_J (jf_base _ _)) (add_J rfl jl_1) q6 q7).mpr hz))
        obtain ⟨q8, H⟩ := H
        refine ⟨inb_J (add_J rfl jl_1) q8 (by decide), ?_⟩
        exact Ev_to (clx (cli rfl (cli (add_J rfl jl_1) rfl))) rfl (jm_up rfl (jf_upd (jf_base _ _) (add_J rfl jl_1) q8 (by decide) jl_0)) H
  · replace H := H.2 (fun hz => hc ((le_J rfl (rd_J (jf_base _ _) rfl q1 (by decide)) q2 q3).mpr hz))
    obtain ⟨r1, q15, H⟩ := H
    refine ⟨J r1, Rn_to (clx (cai rfl rfl)) rfl rfl q15, ?_⟩
    obtain ⟨q9, H⟩ := H
    refine ⟨fun hc => ?_, fun hc => ?_⟩
    · replace H := H.1 ((eq_J rfl jl_0 q9 (by decide)).mp hc)
      refine ⟨inb_J rfl q1 (by decide), ?_⟩
      refine ⟨fun hc => ?_, fun hc => ?_⟩
      · replace H := H.1 ((le_J rfl (rd_J (jf_base _ _) rfl q1 (by decide)) q2 q3).mp hc)
        obtain ⟨q10, H⟩ := H
        refine ⟨fun hc => ?_, fun hc => ?_⟩
        · replace H := H.1 ((lt_J (add_J rfl jl_m1) jl_0 q10 (by decide)).mp hc)
          exact Ev_to (clx (cli rfl (cli (add_J rfl jl_m1) rfl))) rfl rfl H
        · replace H := H.2 (fun hz => hc ((lt_J (add_J rfl jl_m1) jl_0 q10 (by decide)).mpr hz))
          obtain ⟨q11, H⟩ := H
          refine ⟨inb_J (add_J rfl jl_m1) q11 (by decide), ?_⟩
          refine ⟨inb_J (add_J rfl jl_m1) q11 (by decide), ?_⟩
          exact Ev_to (clx (cli rfl (cli (add_J rfl jl_m1) rfl))) rfl (jm_up rfl (jf_upd (jf_base _ _) (add_J rfl jl_m1) q11 (by decide) (add_J (rd_J (jf_base _ _) (add_J rfl jl_m1) q11 (by decide)) jl_1))) H
      · replace H := H.2 (fun hz => hc ((le_J rfl (rd_J (jf_base _ _) rfl q1 (by decide)) q2 q3).mpr hz))
        obtain ⟨q12, q13, H⟩ := H
        refine ⟨fun hc => ?_, fun hc => ?_⟩
        · replace H := H.1 ((le_J (fld_J (jf_base _ _)) (add_J rfl jl_1) q12 q13).mp hc)
          exact Ev_to (clx (cli rfl (cli (add_J rfl jl_1) rfl))) rfl rfl H
        · replace H := H.2 (fun hz => hc ((le_J (fld_J (jf_base _ _)) (add_J rfl jl_1) q12 q13).mpr hz))
          obtain ⟨q14, H⟩ := H
          refine ⟨inb_J (add_J rfl jl_1) q14 (by decide), ?_⟩
          exact Ev_to (clx (cli rfl (cli (add_J rfl jl_1) rfl))) rfl (jm_up rfl (jf_upd (jf_base _ _) (add_J rfl jl_1) q14 (by decide) jl_0)) H
    · replace H := H.2 (fun hz => hc ((eq_J rfl jl_0 q9 (by decide)).mpr hz))
      refine ⟨inb_J rfl q1 (by decide), ?_⟩
      refine ⟨inb_J rfl q1 (by decide), ?_⟩
      exact Ev_to (clx (cli rfl (cli rfl rfl))) rfl (jm_up rfl (jf_upd (jf_base _ _) rfl q1 (by decide) (add_J (rd_J (jf_base _ _) rfl q1 (by decide)) jl_1))) H
-- 261 GlassWiresModel isColour (I)Z
theorem v261_0 {E : gw_N} {N : NM} {res : Option Value × gw_H} {x0 : Int} (H : ((R x0) ∧ res = (some (.int (J (if 0 ≤ x0 ∧ x0 ≤ 7 then (1 : Int) else 0))), hs E (jm N)))) : Ev 2 261 0 [some (.int (J x0))] [] (hs E (jm N)) res := by
  refine w261_0 ?_
  obtain ⟨q1, H⟩ := H
  exact H.trans (rt_i (in_J (congrArg Int32.toInt64 rfl) ll_0 ll_7 q1 (by decide) (by decide)) rfl)
def G261 (N : NM) (x0 : Int) : Int := (if 0 ≤ x0 ∧ x0 ≤ 7 then (1 : Int) else 0)
def Q261 (N : NM) (x0 : Int) : Prop := ((R x0) ∧ True)
theorem t261 {N : NM} {x0 : Int} (H : Q261 N x0) : F261 (jm N) (J x0) = J (G261 N x0) := by
  unfold Q261 at H
  unfold F261 G261
  obtain ⟨q1, H⟩ := H
  exact (in_J (congrArg Int32.toInt64 rfl) ll_0 ll_7 q1 (by decide) (by decide))
theorem sz261 {E : gw_N} {N : NM} {x0 : Int} (H : Q261 N x0) : Rn 261 [.int (J x0)] (hs E (jm N)) (some (.int (J (G261 N x0)))) (hs E (jm N)) := by
  have h := s261 (E := E) (M := jm N) (x0 := J x0)
  rw [t261 H] at h
  exact h
-- 264 GlassWiresModel rule (II)I
theorem v264_0 {E : gw_N} {N : NM} {res : Option Value × gw_H} {x1 : Int} {x2 : Int} (H : ((R x1) ∧ (((if 0 ≤ x1 ∧ x1 ≤ 2 then (1 : Int) else 0) = 0 → res = (some (.int (J (-101))), hs E (jm N))) ∧ (¬ (if 0 ≤ x1 ∧ x1 ≤ 2 then (1 : Int) else 0) = 0 → ((x1 = 2 → Ev 2 264 32 [some (.ref 59), some (.int (J x1)), some (.int (J x2)), none] [.long 999, .long 1, .long (Int32.toInt64 (J x2))] (hs E (jm N)) res) ∧ (¬ x1 = 2 → Ev 2 264 32 [some (.ref 59), some (.int (J x1)), some (.int (J x2)), none] [.long 99, .long 1, .long (Int32.toInt64 (J x2))] (hs E (jm N)) res)))))) : Ev 2 264 0 [some (.ref 59), some (.int (J x1)), some (.int (J x2)), none] [] (hs E (jm N)) res := by
  refine w264_0 ?_
  obtain ⟨q1, H⟩ := H
  refine ⟨fun hc => ?_, fun hc => ?_⟩
  · replace H := H.1 ((eq_J (in_J (congrArg Int32.toInt64 rfl) ll_0 ll_2 q1 (by decide) (by decide)) jl_0 R_in (by decide)).mp hc)
    exact H.trans (rt_i jl_m101 rfl)
  · replace H := H.2 (fun hz => hc ((eq_J (in_J (congrArg Int32.toInt64 rfl) ll_0 ll_2 q1 (by decide) (by decide)) jl_0 R_in (by decide)).mpr hz))
    refine ⟨fun hc => ?_, fun hc => ?_⟩
    · replace H := H.1 ((eq_J rfl jl_2 q1 (by decide)).mp hc)
      exact Ev_to (clx (cli rfl (cli rfl (clx rfl)))) (cal rfl (cal rfl (cal (congrArg Int32.toInt64 rfl) rfl))) rfl H
    · replace H := H.2 (fun hz => hc ((eq_J rfl jl_2 q1 (by decide)).mpr hz))
      exact Ev_to (clx (cli rfl (cli rfl (clx rfl)))) (cal rfl (cal rfl (cal (congrArg Int32.toInt64 rfl) rfl))) rfl H
theorem v264_32 {E : gw_N} {N : NM} {res : Option Value × gw_H} {x1 : Int} {x2 : Int} {y0 : Int64} {y1 : Int64} {y2 : Int64} (H : ((R (G209 N y0 y1 y2)) ∧ (((G209 N y0 y1 y2) = 0 → res = (some (.int (J (-102))), hs E (jm N))) ∧ (¬ (G209 N y0 y1 y2) = 0 → ((R x1) ∧ ((x1 = 0 → Ev 2 264 68 [some (.ref 59), some (.int (J x1)), some (.int (J x2)), none] [.int (J ((N 59) 22))] (hs E (jm N)) res) ∧ (¬ x1 = 0 → ((x1 = 1 → Ev 2 264 68 [some (.ref 59), some (.int (J x1)), some (.int (J x2)), none] [.int (J ((N 59) 23))] (hs E (jm N)) res) ∧ (¬ x1 = 1 → Ev 2 264 68 [some (.ref 59), some (.int (J x1)), some (.int (J x2)), none] [.int (J ((N 59) 24))] (hs E (jm N)) res))))))))) : Ev 2 264 32 [some (.ref 59), some (.int (J x1)), some (.int (J x2)), none] [.long y2, .long y1, .long y0] (hs E (jm N)) res := by
  refine w264_32 ?_
  obtain ⟨q1, H⟩ := H
  refine ⟨fun hc => ?_, fun hc => ?_⟩
  · replace H := H.1 ((eq_J ((congr (congr (congr (congrArg F209 rfl) rfl) rfl) rfl).trans (t209)) jl_0 q1 (by decide)).mp hc)
    exact H.trans (rt_i jl_m102 rfl)
  · replace H := H.2 (fun hz => hc ((eq_J ((congr (congr (congr (congrArg F209 rfl) rfl) rfl) rfl).trans (t209)) jl_0 q1 (by decide)).mpr hz))
    obtain ⟨q2, H⟩ := H
    refine ⟨fun hc => ?_, fun hc => ?_⟩
    · replace H := H.1 ((eq_J rfl jl_0 q2 (by decide)).mp hc)
      exact Ev_to (clx (cli rfl (cli rfl (clx rfl)))) (cai (fld_J (jf_base _ _)) rfl) rfl H
    · replace H := H.2 (fun hz => hc ((eq_J rfl jl_0 q2 (by decide)).mpr hz))
      refine ⟨fun hc => ?_, fun hc => ?_⟩
      · replace H := H.1 ((eq_J rfl jl_1 q2 (by decide)).mp hc)
        exact Ev_to (clx (cli rfl (cli rfl (clx rfl)))) (cai (fld_J (jf_base _ _)) rfl) rfl H
      · replace H := H.2 (fun hz => hc ((eq_J rfl jl_1 q2 (by decide)).mpr hz))
        exact Ev_to (clx (cli rfl (cli rfl (clx rfl)))) (cai (fld_J (jf_base _ _)) rfl) rfl H
theorem v264_68 {E : gw_N} {N : NM} {res : Option Value × gw_H} {x1 : Int} {x2 : Int} {y0 : Int} (H : ((R x1) ∧ ((x1 = 0 → Ev 2 264 82 [some (.ref 59), some (.int (J x1)), some (.int (J x2)), some (.int (J y0))] [.int (J x2), .ref 59] (hs E (jm N)) res) ∧ (¬ x1 = 0 → Ev 2 264 82 [some (.ref 59), some (.int (J x1)), some (.int (J x2)), some (.int (J y0))] [.int (J ((N 59) 22)), .ref 59] (hs E (jm N)) res)))) : Ev 2 264 68 [some (.ref 59), some (.int (J x1)), some (.int (J x2)), none] [.int (J y0)] (hs E (jm N)) res := by
  refine w264_68 ?_
  obtain ⟨q1, H⟩ := H
  refine ⟨fun hc => ?_, fun hc => ?_⟩
  · replace H := H.1 ((eq_J rfl jl_0 q1 (by decide)).mp hc)
    exact Ev_to (clx (cli rfl (cli rfl (cli rfl rfl)))) (cai rfl (clx rfl)) rfl H
  · replace H := H.2 (fun hz => hc ((eq_J rfl jl_0 q1 (by decide)).mpr hz))
    exact Ev_to (clx (cli rfl (cli rfl (cli rfl rfl)))) (cai (fld_J (jf_base _ _)) (clx rfl)) rfl H
theorem v264_82 {E : gw_N} {N : NM} {res : Option Value × gw_H} {x1 : Int} {x2 : Int} {x3 : Int} {y1 : Int} (H : ((R x1) ∧ ((x1 = 1 → Ev 2 264 99 [some (.ref 59), some (.int (J x1)), some (.int (J x2)), some (.int (J x3))] [.int (J x2), .ref 59] (hs E (jm (upZ N 59 (updZ (N 59) 22 y1)))) res) ∧ (¬ x1 = 1 → Ev 2 264 99 [some (.ref 59), some (.int (J x1)), some (.int (J x2)), some (.int (J x3))] [.int (J ((updZ (N 59) 22 y1) 23)), .ref 59] (hs E (jm (upZ N 59 (updZ (N 59) 22 y1)))) res)))) : Ev 2 264 82 [some (.ref 59), some (.int (J x1)), some (.int (J x2)), some (.int (J x3))] [.int (J y1), .ref 59] (hs E (jm N)) res := by
  refine w264_82 ?_
  obtain ⟨q1, H⟩ := H
  refine ⟨fun hc => ?_, fun hc => ?_⟩
  · replace H := H.1 ((eq_J rfl jl_1 q1 (by decide)).mp hc)
    exact Ev_to (clx (cli rfl (cli rfl (cli rfl rfl)))) (cai rfl (clx rfl)) (jm_up rfl (jf_updk (jf_base _ _) rfl)) H
  · replace H := H.2 (fun hz => hc ((eq_J rfl jl_1 q1 (by decide)).mpr hz))
    exact Ev_to (clx (cli rfl (cli rfl (cli rfl rfl)))) (cai (fld_J (jf_updk (jf_base _ _) rfl)) (clx rfl)) (jm_up rfl (jf_updk (jf_base _ _) rfl)) H
theorem v264_99 {E : gw_N} {N : NM} {res : Option Value × gw_H} {x1 : Int} {x2 : Int} {x3 : Int} {y1 : Int} (H : ((R x1) ∧ ((x1 = 2 → Ev 2 264 116 [none, none, none, some (.int (J x3))] [.int (J x2), .ref 59] (hs E (jm (upZ N 59 (updZ (N 59) 23 y1)))) res) ∧ (¬ x1 = 2 → Ev 2 264 116 [none, none, none, some (.int (J x3))] [.int (J ((updZ (N 59) 23 y1) 24)), .ref 59] (hs E (jm (upZ N 59 (updZ (N 59) 23 y1)))) res)))) : Ev 2 264 99 [some (.ref 59), some (.int (J x1)), some (.int (J x2)), some (.int (J x3))] [.int (J y1), .ref 59] (hs E (jm N)) res := by
  refine w264_99 ?_
  obtain ⟨q1, H⟩ := H
  refine ⟨fun hc => ?_, fun hc => ?_⟩
  · replace H := H.1 ((eq_J rfl jl_2 q1 (by decide)).mp hc)
    exact Ev_to (clx (clx (clx (cli rfl rfl)))) (cai rfl (clx rfl)) (jm_up rfl (jf_updk (jf_base _ _) rfl)) H
  · replace H := H.2 (fun hz => hc ((eq_J rfl jl_2 q1 (by decide)).mpr hz))
    exact Ev_to (clx (clx (clx (cli rfl rfl)))) (cai (fld_J (jf_updk (jf_base _ _) rfl)) (clx rfl)) (jm_up rfl (jf_updk (jf_base _ _) rfl)) H
theorem v264_116 {E : gw_N} {N : NM} {res : Option Value × gw_H} {x3 : Int} {y1 : Int} (H : res = (some (.int (J x3)), hs E (jm (upZ N 59 (updZ (N 59) 24 y1))))) : Ev 2 264 116 [none, none, none, some (.int (J x3))] [.int (J y1), .ref 59] (hs E (jm N)) res := by
  refine w264_116 ?_
  exact H.trans (rt_i rfl (jm_up rfl (jf_updk (jf_base _ _) rfl)))
-- 274 GlassWiresModel polish ()I
theorem v274_0 {E : gw_N} {N : NM} {res : Option Value × gw_H}  (H : Ev 2 274 4 [some (.ref 59), some (.int (J 0)), some (.int (J 0)), none, none] [] (hs E (jm N)) res) : Ev 2 274 0 [some (.ref 59), none, none, none, none] [] (hs E (jm N)) res := by
  refine w274_0 ?_
  exact Ev_to (clx (cli jl_0 (cli jl_0 (clx (clx rfl))))) rfl rfl H
theorem v274_4 {E : gw_N} {N : NM} {res : Option Value × gw_H} {x1 : Int} {x2 : Int} (H : ((R (G243 N)) ∧ ((R x2) ∧ (((G243 N) ≤ x2 → res = (some (.int (J x1)), hs E (jm N))) ∧ (¬ (G243 N) ≤ x2 → (∃ (r1 : Int), Rn 267 [.ref 59, .int (J x2)] (hs E (jm N)) (some (.int (J r1))) (hs E (jm N)) ∧ Ev 2 274 23 [some (.ref 59), some (.int (J x1)), some (.int (J x2)), some (.int (J (r1 - ((N 59) 22)))), none] [] (hs E (jm N)) res)))))) : Ev 2 274 4 [some (.ref 59), some (.int (J x1)), some (.int (J x2)), none, none] [] (hs E (jm N)) res := by
  refine w274_4 ?_
  obtain ⟨q1, q2, H⟩ := H
  refine ⟨fun hc => ?_, fun hc => ?_⟩
  · replace H := H.1 ((le_J ((congrArg F243 rfl).trans (t243)) rfl q1 q2).mp hc)
    exact H.trans (rt_i rfl rfl)
  · replace H := H.2 (fun hz => hc ((le_J ((congrArg F243 rfl).trans (t243)) rfl q1 q2).mpr hz))
    obtain ⟨r1, q3, H⟩ := H
    refine ⟨J r1, Rn_to (clx (cai rfl rfl)) rfl rfl q3, ?_⟩
    exact Ev_to (clx (cli rfl (cli rfl (cli (sub_J rfl (fld_J (jf_base _ _))) (clx rfl))))) rfl rfl H
theorem v274_23 {E : gw_N} {N : NM} {res : Option Value × gw_H} {x1 : Int} {x2 : Int} {x3 : Int} (H : ((R x3) ∧ ((x3 ≤ 0 → Ev 2 274 4 [some (.ref 59), some (.int (J x1)), some (.int (J (x2 + 1))), none, none] [] (hs E (jm N)) res) ∧ (¬ x3 ≤ 0 → (∃ (r1 : Int) (N1 : NM), Rn 272 [.ref 59, .int (J x2), .int (J x3)] (hs E (jm N)) (some (.int (J r1))) (hs E (jm N1)) ∧ Ev 2 274 23 [some (.ref 59), some (.int (J (x1 + r1))), some (.int (J x2)), some (.int (J (x3 - r1))), none] [] (hs E (jm N1)) res))))) : Ev 2 274 23 [some (.ref 59), some (.int (J x1)), some (.int (J x2)), some (.int (J x3)), none] [] (hs E (jm N)) res := by
  refine w274_23 ?_
  obtain ⟨q1, H⟩ := H
  refine ⟨fun hc => ?_, fun hc => ?_⟩
  · replace H := H.1 ((le_J rfl jl_0 q1 (by decide)).mp hc)
    exact Ev_to (clx (cli rfl (cli (add_J rfl jl_1) (clx (clx rfl))))) rfl rfl H
  · replace H := H.2 (fun hz => hc ((le_J rfl jl_0 q1 (by decide)).mpr hz))
    obtain ⟨r1, N1, q2, H⟩ := H
    refine ⟨J r1, jm N1, Rn_to (clx (cai rfl (cai rfl rfl))) rfl rfl q2, ?_⟩
    exact Ev_to (clx (cli (add_J rfl rfl) (cli rfl (cli (sub_J rfl rfl) (clx rfl))))) rfl rfl H
