/-! by program (wpz.py): the formulas over the integers -/
-- 232 GlassWiresModel point (II)I
theorem v232_0 {E : gw_N} {N : NM} {res : Option Value × gw_H} {x1 : Int} {x2 : Int} (H : ((Q220 N x1) ∧ ((R (G220 N x1)) ∧ (((G220 N x1) = 0 → res = (some (.int (J (-101))), hs E (jm N))) ∧ (¬ (G220 N x1) = 0 → ((0 ≤ x1 ∧ x1 < 30) ∧ ((R x2) ∧ ((R ((N 63) x1)) ∧ (((if 0 ≤ x2 ∧ x2 ≤ ((N 63) x1) then (1 : Int) else 0) = 0 → res = (some (.int (J (-1))), hs E (jm N))) ∧ (¬ (if 0 ≤ x2 ∧ x2 ≤ ((N 63) x1) then (1 : Int) else 0) = 0 → ((0 ≤ ((25 * x1) + x2) ∧ ((25 * x1) + x2) < 750) ∧ res = (some (.int (J ((10 * ((N 62) ((25 * x1) + x2))) + ((N 61) ((25 * x1) + x2))))), hs E (jm N))))))))))))) : Ev 3 232 0 [some (.ref 59), some (.int (J x1)), some (.int (J x2))] [] (hs E (jm N)) res := by
  refine w232_0 ?_
  obtain ⟨q1, H⟩ := H
  obtain ⟨q2, H⟩ := H
  refine ⟨fun hc => ?_, fun hc => ?_⟩
  · replace H := H.1 ((eq_J ((congr (congrArg F220 rfl) rfl).trans (t220 q1)) jl_0 q2 (by decide)).mp hc)
    exact H.trans (rt_i jl_m101 rfl)
  · replace H := H.2 (fun hz => hc ((eq_J ((congr (congrArg F220 rfl) rfl).trans (t220 q1)) jl_0 q2 (by decide)).mpr hz))
    obtain ⟨q3, H⟩ := H
    refine ⟨inb_J rfl q3 (by decide), ?_⟩
    obtain ⟨q4, q5, H⟩ := H
    refine ⟨fun hc => ?_, fun hc => ?_⟩
    · replace H := H.1 ((eq_J (in_J (congrArg Int32.toInt64 rfl) ll_0 (congrArg Int32.toInt64 (rd_J (jf_base _ _) rfl q3 (by decide))) q4 (by decide) q5) jl_0 R_in (by decide)).mp hc)
      exact H.trans (rt_i jl_m1 rfl)
    · replace H := H.2 (fun hz => hc ((eq_J (in_J (congrArg Int32.toInt64 rfl) ll_0 (congrArg Int32.toInt64 (rd_J (jf_base _ _) rfl q3 (by decide))) q4 (by decide) q5) jl_0 R_in (by decide)).mpr hz))
      obtain ⟨q6, H⟩ := H
      refine ⟨inb_J (add_J (mul_J jl_25 rfl) rfl) q6 (by decide), ?_⟩
      refine ⟨inb_J (add_J (mul_J jl_25 rfl) rfl) q6 (by decide), ?_⟩
      exact H.trans (rt_i (add_J (mul_J jl_10 (rd_J (jf_base _ _) (add_J (mul_J jl_25 rfl) rfl) q6 (by decide))) (rd_J (jf_base _ _) (add_J (mul_J jl_25 rfl) rfl) q6 (by decide))) rfl)
def G232 (N : NM) (x1 : Int) (x2 : Int) : Int := (if (G220 N x1) = 0 then (-101) else (if (if 0 ≤ x2 ∧ x2 ≤ ((N 63) x1) then (1 : Int) else 0) = 0 then (-1) else ((10 * ((N 62) ((25 * x1) + x2))) + ((N 61) ((25 * x1) + x2)))))
def Q232 (N : NM) (x1 : Int) (x2 : Int) : Prop := ((Q220 N x1) ∧ ((R (G220 N x1)) ∧ (((G220 N x1) = 0 → True) ∧ (¬ (G220 N x1) = 0 → ((0 ≤ x1 ∧ x1 < 30) ∧ ((R x2) ∧ ((R ((N 63) x1)) ∧ (((if 0 ≤ x2 ∧ x2 ≤ ((N 63) x1) then (1 : Int) else 0) = 0 → True) ∧ (¬ (if 0 ≤ x2 ∧ x2 ≤ ((N 63) x1) then (1 : Int) else 0) = 0 → ((0 ≤ ((25 * x1) + x2) ∧ ((25 * x1) + x2) < 750) ∧ True))))))))))
theorem t232 {N : NM} {x1 : Int} {x2 : Int} (H : Q232 N x1 x2) : F232 (jm N) (J x1) (J x2) = J (G232 N x1 x2) := by
  unfold Q232 at H
  unfold F232 G232
  obtain ⟨q1, H⟩ := H
  obtain ⟨q2, H⟩ := H
  refine ite_J (eq_J ((congr (congrArg F220 rfl) rfl).trans (t220 q1)) jl_0 q2 (by decide)) (fun hc => ?_) (fun hc => ?_)
  · replace H := H.1 ((eq_J ((congr (congrArg F220 rfl) rfl).trans (t220 q1)) jl_0 q2 (by decide)).mp hc)
    exact jl_m101
  · replace H := H.2 (fun hz => hc ((eq_J ((congr (congrArg F220 rfl) rfl).trans (t220 q1)) jl_0 q2 (by decide)).mpr hz))
    obtain ⟨q3, H⟩ := H
    obtain ⟨q4, q5, H⟩ := H
    refine ite_J (eq_J (in_J (congrArg Int32.toInt64 rfl) ll_0 (congrArg Int32.toInt64 (rd_J (jf_base _ _) rfl q3 (by decide))) q4 (by decide) q5) jl_0 R_in (by decide)) (fun hc => ?_) (fun hc => ?_)
    · replace H := H.1 ((eq_J (in_J (congrArg Int32.toInt64 rfl) ll_0 (congrArg Int32.toInt64 (rd_J (jf_base _ _) rfl q3 (by decide))) q4 (by decide) q5) jl_0 R_in (by decide)).mp hc)
      exact jl_m1
    · replace H := H.2 (fun hz => hc ((eq_J (in_J (congrArg Int32.toInt64 rfl) ll_0 (congrArg Int32.toInt64 (rd_J (jf_base _ _) rfl q3 (by decide))) q4 (by decide) q5) jl_0 R_in (by decide)).mpr hz))
      obtain ⟨q6, H⟩ := H
      exact (add_J (mul_J jl_10 (rd_J (jf_base _ _) (add_J (mul_J jl_25 rfl) rfl) q6 (by decide))) (rd_J (jf_base _ _) (add_J (mul_J jl_25 rfl) rfl) q6 (by decide)))
theorem p232 {N : NM} {x1 : Int} {x2 : Int} (H : Q232 N x1 x2) : P232 (jm N) (J x1) (J x2) := by
  unfold Q232 at H
  unfold P232
  obtain ⟨q1, H⟩ := H
  obtain ⟨q2, H⟩ := H
  refine ⟨fun hc => ?_, fun hc => ?_⟩
  · replace H := H.1 ((eq_J ((congr (congrArg F220 rfl) rfl).trans (t220 q1)) jl_0 q2 (by decide)).mp hc)
    trivial
  · replace H := H.2 (fun hz => hc ((eq_J ((congr (congrArg F220 rfl) rfl).trans (t220 q1)) jl_0 q2 (by decide)).mpr hz))
    obtain ⟨q3, H⟩ := H
    refine ⟨inb_J rfl q3 (by decide), ?_⟩
    obtain ⟨q4, q5, H⟩ := H
    refine ⟨fun hc => ?_, fun hc => ?_⟩
    · replace H := H.1 ((eq_J (in_J (congrArg Int32.toInt64 rfl) ll_0 (congrArg Int32.toInt64 (rd_J (jf_base _ _) rfl q3 (by decide))) q4 (by decide) q5) jl_0 R_in (by decide)).mp hc)
      trivial
    · replace H := H.2 (fun hz => hc ((eq_J (in_J (congrArg Int32.toInt64 rfl) ll_0 (congrArg Int32.toInt64 (rd_J (jf_base _ _) rfl q3 (by decide))) q4 (by decide) q5) jl_0 R_in (by decide)).mpr hz))
      obtain ⟨q6, H⟩ := H
      refine ⟨inb_J (add_J (mul_J jl_25 rfl) rfl) q6 (by decide), ?_⟩
      exact inb_J (add_J (mul_J jl_25 rfl) rfl) q6 (by decide)
theorem sz232 {E : gw_N} {N : NM} {x1 : Int} {x2 : Int} (H : Q232 N x1 x2) : Rn 232 [.ref 59, .int (J x1), .int (J x2)] (hs E (jm N)) (some (.int (J (G232 N x1 x2)))) (hs E (jm N)) := by
  have h := s232 (E := E) (M := jm N) (x1 := J x1) (x2 := J x2) (p232 H)
  rw [t232 H] at h
  exact h
-- 233 GlassWiresModel coversOf (I)I
theorem v233_0 {E : gw_N} {N : NM} {res : Option Value × gw_H} {x1 : Int} (H : Ev 3 233 4 [some (.ref 59), some (.int (J x1)), some (.int (J 0)), some (.int (J 0))] [] (hs E (jm N)) res) : Ev 3 233 0 [some (.ref 59), some (.int (J x1)), none, none] [] (hs E (jm N)) res := by
  refine w233_0 ?_
  exact Ev_to (clx (cli rfl (cli jl_0 (cli jl_0 rfl)))) rfl rfl H
theorem v233_4 {E : gw_N} {N : NM} {res : Option Value × gw_H} {x1 : Int} {x2 : Int} {x3 : Int} (H : ((R ((N 59) 4)) ∧ ((R x3) ∧ ((((N 59) 4) ≤ x3 → res = (some (.int (J x2)), hs E (jm N))) ∧ (¬ ((N 59) 4) ≤ x3 → ((0 ≤ x3 ∧ x3 < 30) ∧ ((R ((N 64) x3)) ∧ ((((N 64) x3) = 0 → Ev 3 233 4 [some (.ref 59), some (.int (J x1)), some (.int (J (x2 + 0))), some (.int (J (x3 + 1)))] [] (hs E (jm N)) res) ∧ (¬ ((N 64) x3) = 0 → (∃ (r1 : Int), Rn 224 [.ref 59, .int (J x3), .int (J x1)] (hs E (jm N)) (some (.int (J r1))) (hs E (jm N)) ∧ ((R r1) ∧ ((r1 = 0 → Ev 3 233 4 [some (.ref 59), some (.int (J x1)), some (.int (J (x2 + 0))), some (.int (J (x3 + 1)))] [] (hs E (jm N)) res) ∧ (¬ r1 = 0 → Ev 3 233 4 [some (.ref 59), some (.int (J x1)), some (.int (J (x2 + 1))), some (.int (J (x3 + 1)))] [] (hs E (jm N)) res))))))))))))) : Ev 3 233 4 [some (.ref 59), some (.int (J x1)), some (.int (J x2)), some (.int (J x3))] [] (hs E (jm N)) res := by
  refine w233_4 ?_
  obtain ⟨q1, q2, H⟩ := H
  refine ⟨fun hc => ?_, fun hc => ?_⟩
  · replace H := H.1 ((le_J (fld_J (jf_base _ _)) rfl q1 q2).mp hc)
    exact H.trans (rt_i rfl rfl)
  · replace H := H.2 (fun hz => hc ((le_J (fld_J (jf_base _ _)) rfl q1 q2).mpr hz))
    obtain ⟨q3, H⟩ := H
    refine ⟨inb_J rfl q3 (by decide), ?_⟩
    obtain ⟨q4, H⟩ := H
    refine ⟨fun hc => ?_, fun hc => ?_⟩
    · replace H := H.1 ((eq_J (rd_J (jf_base _ _) rfl q3 (by decide)) jl_0 q4 (by decide)).mp hc)
      exact Ev_to (clx (cli rfl (cli (add_J rfl jl_0) (cli (add_J rfl jl_1) rfl)))) rfl rfl H
    · replace H := H.2 (fun hz => hc ((eq_J (rd_J (jf_base _ _) rfl q3 (by decide)) jl_0 q4 (by decide)).mpr hz))
      obtain ⟨r1, q6, H⟩ := H
      refine ⟨J r1, Rn_to (clx (cai rfl (cai rfl rfl))) rfl rfl q6, ?_⟩
      obtain ⟨q5, H⟩ := H
      refine ⟨fun hc => ?_, fun hc => ?_⟩
      · replace H := H.1 ((eq_J rfl jl_0 q5 (by decide)).mp hc)
        exact Ev_to (clx (cli rfl (cli (add_J rfl jl_0) (cli (add_J rfl jl_1) rfl)))) rfl rfl H
      · replace H := H.2 (fun hz => hc ((eq_J rfl jl_0 q5 (by decide)).mpr hz))
        exact Ev_to (clx (cli rfl (cli (add_J rfl jl_1) (cli (add_J rfl jl_1) rfl)))) rfl rfl H
-- 238 GlassWiresModel coverAt (III)I
theorem v238_0 {E : gw_N} {N : NM} {res : Option Value × gw_H} {x1 : Int} {x2 : Int} {x3 : Int} (H : ((Q234 N x1 x2 x3) ∧ ((R (G234 N x1 x2 x3)) ∧ (((G234 N x1 x2 x3) = 0 → res = (some (.int (J 0)), hs E (jm N))) ∧ (¬ (G234 N x1 x2 x3) = 0 → ((0 ≤ (G235 N x1 x2 x3) ∧ (G235 N x1 x2 x3) < 162) ∧ res = (some (.int (J ((N 67) (G235 N x1 x2 x3)))), hs E (jm N)))))))) : Ev 3 238 0 [some (.ref 59), some (.int (J x1)), some (.int (J x2)), some (.int (J x3))] [] (hs E (jm N)) res := by
  refine w238_0 ?_
  obtain ⟨q1, H⟩ := H
  obtain ⟨q2, H⟩ := H
  refine ⟨fun hc => ?_, fun hc => ?_⟩
  · replace H := H.1 ((eq_J ((congr (congr (congr (congrArg F234 rfl) rfl) rfl) rfl).trans (t234 q1)) jl_0 q2 (by decide)).mp hc)
    exact H.trans (rt_i jl_0 rfl)
  · replace H := H.2 (fun hz => hc ((eq_J ((congr (congr (congr (congrArg F234 rfl) rfl) rfl) rfl).trans (t234 q1)) jl_0 q2 (by decide)).mpr hz))
    obtain ⟨q3, H⟩ := H
    refine ⟨inb_J ((congr (congr (congr (congrArg F235 rfl) rfl) rfl) rfl).trans (t235)) q3 (by decide), ?_⟩
    exact H.trans (rt_i (rd_J (jf_base _ _) ((congr (congr (congr (congrArg F235 rfl) rfl) rfl) rfl).trans (t235)) q3 (by decide)) rfl)
def G238 (N : NM) (x1 : Int) (x2 : Int) (x3 : Int) : Int := (if (G234 N x1 x2 x3) = 0 then 0 else ((N 67) (G235 N x1 x2 x3)))
def Q238 (N : NM) (x1 : Int) (x2 : Int) (x3 : Int) : Prop := ((Q234 N x1 x2 x3) ∧ ((R (G234 N x1 x2 x3)) ∧ (((G234 N x1 x2 x3) = 0 → True) ∧ (¬ (G234 N x1 x2 x3) = 0 → ((0 ≤ (G235 N x1 x2 x3) ∧ (G235 N x1 x2 x3) < 162) ∧ True)))))
theorem t238 {N : NM} {x1 : Int} {x2 : Int} {x3 : Int} (H : Q238 N x1 x2 x3) : F238 (jm N) (J x1) (J x2) (J x3) = J (G238 N x1 x2 x3) := by
  unfold Q238 at H
  unfold F238 G238
  obtain ⟨q1, H⟩ := H
  obtain ⟨q2, H⟩ := H
  refine ite_J (eq_J ((congr (congr (congr (congrArg F234 rfl) rfl) rfl) rfl).trans (t234 q1)) jl_0 q2 (by decide)) (fun hc => ?_) (fun hc => ?_)
  · replace H := H.1 ((eq_J ((congr (congr (congr (congrArg F234 rfl) rfl) rfl) rfl).trans (t234 q1)) jl_0 q2 (by decide)).mp hc)
    exact jl_0
  · replace H := H.2 (fun hz => hc ((eq_J ((congr (congr (congr (congrArg F234 rfl) rfl) rfl) rfl).trans (t234 q1)) jl_0 q2 (by decide)).mpr hz))
    obtain ⟨q3, H⟩ := H
    exact (rd_J (jf_base _ _) ((congr (congr (congr (congrArg F235 rfl) rfl) rfl) rfl).trans (t235)) q3 (by decide))
theorem p238 {N : NM} {x1 : Int} {x2 : Int} {x3 : Int} (H : Q238 N x1 x2 x3) : P238 (jm N) (J x1) (J x2) (J x3) := by
  unfold Q238 at H
  unfold P238
  obtain ⟨q1, H⟩ := H
  obtain ⟨q2, H⟩ := H
  refine ⟨fun hc => ?_, fun hc => ?_⟩
  · replace H := H.1 ((eq_J ((congr (congr (congr (congrArg F234 rfl) rfl) rfl) rfl).trans (t234 q1)) jl_0 q2 (by decide)).mp hc)
    trivial
  · replace H := H.2 (fun hz => hc ((eq_J ((congr (congr (congr (congrArg F234 rfl) rfl) rfl) rfl).trans (t234 q1)) jl_0 q2 (by decide)).mpr hz))
    obtain ⟨q3, H⟩ := H
    exact inb_J ((congr (congr (congr (congrArg F235 rfl) rfl) rfl) rfl).trans (t235)) q3 (by decide)
theorem sz238 {E : gw_N} {N : NM} {x1 : Int} {x2 : Int} {x3 : Int} (H : Q238 N x1 x2 x3) : Rn 238 [.ref 59, .int (J x1), .int (J x2), .int (J x3)] (hs E (jm N)) (some (.int (J (G238 N x1 x2 x3)))) (hs E (jm N)) := by
  have h := s238 (E := E) (M := jm N) (x1 := J x1) (x2 := J x2) (x3 := J x3) (p238 H)
  rw [t238 H] at h
  exact h
-- 247 GlassWiresModel findCells ()V
theorem v247_0 {E : gw_N} {N : NM} {res : Option Value × gw_H}  (H : (∃ (N1 : NM), Rn 237 [.ref 59] (hs E (jm N)) none (hs E (jm N1)) ∧ Ev 3 247 6 [some (.ref 59), some (.int (J 0)), none, none, none, none] [] (hs E (jm N1)) res)) : Ev 3 247 0 [some (.ref 59), none, none, none, none, none] [] (hs E (jm N)) res := by
  refine w247_0 ?_
  obtain ⟨N1, q1, H⟩ := H
  refine ⟨jm N1, Rn_to (clx rfl) rfl rfl q1, ?_⟩
  exact Ev_to (clx (cli jl_0 (clx (clx (clx (clx rfl)))))) rfl rfl H
theorem v247_6 {E : gw_N} {N : NM} {res : Option Value × gw_H} {x1 : Int} (H : ((R (G243 N)) ∧ ((R x1) ∧ (((G243 N) ≤ x1 → Ev 3 247 29 [some (.ref 59), some (.int (J 1)), none, none, none, none] [] (hs E (jm N)) res) ∧ (¬ (G243 N) ≤ x1 → ((0 ≤ x1 ∧ x1 < 64) ∧ Ev 3 247 6 [some (.ref 59), some (.int (J (x1 + 1))), none, none, none, none] [] (hs E (jm (upZ N 69 (updZ (N 69) x1 x1)))) res)))))) : Ev 3 247 6 [some (.ref 59), some (.int (J x1)), none, none, none, none] [] (hs E (jm N)) res := by
  refine w247_6 ?_
  obtain ⟨q1, q2, H⟩ := H
  refine ⟨fun hc => ?_, fun hc => ?_⟩
  · replace H := H.1 ((le_J ((congrArg F243 rfl).trans (t243)) rfl q1 q2).mp hc)
    exact Ev_to (clx (cli jl_1 (clx (clx (clx (clx rfl)))))) rfl rfl H
  · replace H := H.2 (fun hz => hc ((le_J ((congrArg F243 rfl).trans (t243)) rfl q1 q2).mpr hz))
    obtain ⟨q3, H⟩ := H
    refine ⟨inb_J rfl q3 (by decide), ?_⟩
    exact Ev_to (clx (cli (add_J rfl jl_1) (clx (clx (clx (clx rfl)))))) rfl (jm_up rfl (jf_upd (jf_base _ _) rfl q3 (by decide) rfl)) H
theorem v247_29 {E : gw_N} {N : NM} {res : Option Value × gw_H} {x1 : Int} (H : ((R x1) ∧ ((x1 = 0 → res = (none, hs E (jm N))) ∧ (¬ x1 = 0 → Ev 3 247 37 [some (.ref 59), some (.int (J 0)), some (.int (J 0)), none, none, none] [] (hs E (jm N)) res)))) : Ev 3 247 29 [some (.ref 59), some (.int (J x1)), none, none, none, none] [] (hs E (jm N)) res := by
  refine w247_29 ?_
  obtain ⟨q1, H⟩ := H
  refine ⟨fun hc => ?_, fun hc => ?_⟩
  · replace H := H.1 ((eq_J rfl jl_0 q1 (by decide)).mp hc)
    exact H.trans (rt_n rfl)
  · replace H := H.2 (fun hz => hc ((eq_J rfl jl_0 q1 (by decide)).mpr hz))
    exact Ev_to (clx (cli jl_0 (cli jl_0 (clx (clx (clx rfl)))))) rfl rfl H
theorem v247_37 {E : gw_N} {N : NM} {res : Option Value × gw_H} {x1 : Int} {x2 : Int} (H : ((R (G243 N)) ∧ ((R x2) ∧ (((G243 N) ≤ x2 → Ev 3 247 29 [some (.ref 59), some (.int (J x1)), none, none, none, none] [] (hs E (jm N)) res) ∧ (¬ (G243 N) ≤ x2 → Ev 3 247 47 [some (.ref 59), some (.int (J x1)), some (.int (J x2)), some (.int (J 0)), none, none] [] (hs E (jm N)) res))))) : Ev 3 247 37 [some (.ref 59), some (.int (J x1)), some (.int (J x2)), none, none, none] [] (hs E (jm N)) res := by
  refine w247_37 ?_
  obtain ⟨q1, q2, H⟩ := H
  refine ⟨fun hc => ?_, fun hc => ?_⟩
  · replace H := H.1 ((le_J ((congrArg F243 rfl).trans (t243)) rfl q1 q2).mp hc)
    exact Ev_to (clx (cli rfl (clx (clx (clx (clx rfl)))))) rfl rfl H
  · replace H := H.2 (fun hz => hc ((le_J ((congrArg F243 rfl).trans (t243)) rfl q1 q2).mpr hz))
    exact Ev_to (clx (cli rfl (cli rfl (cli jl_0 (clx (clx rfl)))))) rfl rfl H
theorem v247_47 {E : gw_N} {N : NM} {res : Option Value × gw_H} {x1 : Int} {x2 : Int} {x3 : Int} (H : ((R x3) ∧ (((2 : Int) ≤ x3 → Ev 3 247 37 [some (.ref 59), some (.int (J x1)), some (.int (J (x2 + 1))), none, none, none] [] (hs E (jm N)) res) ∧ (¬ (2 : Int) ≤ x3 → ((Q245 N x2 x3) ∧ ((R (G245 N x2 x3)) ∧ (((G245 N x2 x3) = (-1) → Ev 3 247 47 [some (.ref 59), some (.int (J x1)), some (.int (J x2)), some (.int (J (x3 + 1))), none, none] [] (hs E (jm N)) res) ∧ (¬ (G245 N x2 x3) = (-1) → ((Q246 N x2 x3) ∧ ((0 ≤ (G246 N x2 x3) ∧ (G246 N x2 x3) < 162) ∧ ((R ((N 67) (G246 N x2 x3))) ∧ ((((N 67) (G246 N x2 x3)) = 0 → ((0 ≤ x2 ∧ x2 < 64) ∧ ((0 ≤ (G245 N x2 x3) ∧ (G245 N x2 x3) < 64) ∧ ((R ((N 69) x2)) ∧ ((R ((N 69) (G245 N x2 x3))) ∧ ((((N 69) x2) = ((N 69) (G245 N x2 x3)) → Ev 3 247 47 [some (.ref 59), some (.int (J x1)), some (.int (J x2)), some (.int (J (x3 + 1))), none, none] [] (hs E (jm N)) res) ∧ (¬ ((N 69) x2) = ((N 69) (G245 N x2 x3)) → ((((N 69) (G245 N x2 x3)) ≤ ((N 69) x2) → Ev 3 247 47 [some (.ref 59), some (.int (J 1)), some (.int (J x2)), some (.int (J (x3 + 1))), none, none] [] (hs E (jm (upZ N 69 (updZ (updZ (N 69) x2 ((N 69) (G245 N x2 x3))) (G245 N x2 x3) ((N 69) (G245 N x2 x3)))))) res) ∧ (¬ ((N 69) (G245 N x2 x3)) ≤ ((N 69) x2) → Ev 3 247 47 [some (.ref 59), some (.int (J 1)), some (.int (J x2)), some (.int (J (x3 + 1))), none, none] [] (hs E (jm (upZ N 69 (updZ (updZ (N 69) x2 ((N 69) x2)) (G245 N x2 x3) ((N 69) x2))))) res))))))))) ∧ (¬ ((N 67) (G246 N x2 x3)) = 0 → Ev 3 247 47 [some (.ref 59), some (.int (J x1)), some (.int (J x2)), some (.int (J (x3 + 1))), none, none] [] (hs E (jm N)) res))))))))))))) : Ev 3 247 47 [some (.ref 59), some (.int (J x1)), some (.int (J x2)), some (.int (J x3)), none, none] [] (hs E (jm N)) res := by
  refine w247_47 ?_
  obtain ⟨q1, H⟩ := H
  refine ⟨fun hc => ?_, fun hc => ?_⟩
  · replace H := H.1 ((le_J jl_2 rfl (by decide) q1).mp hc)
    exact Ev_to (clx (cli rfl (cli (add_J rfl jl_1) (clx (clx (clx rfl)))))) rfl rfl H
  · replace H := H.2 (fun hz => hc ((le_J jl_2 rfl (by decide) q1).mpr hz))
    obtain ⟨q2, H⟩ := H
    refine ⟨Eq.mpr (congr (congr (congrArg P245 rfl) rfl) rfl) (p245 q2), ?_⟩
    obtain ⟨q3, H⟩ := H
    refine ⟨fun hc => ?_, fun hc => ?_⟩
    · replace H := H.1 ((eq_J ((congr (congr (congrArg F245 rfl) rfl) rfl).trans (t245 q2)) jl_m1 q3 (by decide)).mp hc)
      exact Ev_to (clx (cli rfl (cli rfl (cli (add_J rfl jl_1) (clx (clx rfl)))))) rfl rfl H
    · replace H := H.2 (fun hz => hc ((eq_J ((congr (congr (congrArg F245 rfl) rfl) rfl).trans (t245 q2)) jl_m1 q3 (by decide)).mpr hz))
      obtain ⟨q4, H⟩ := H
      refine ⟨Eq.mpr (congr (congr (congrArg P246 rfl) rfl) rfl) (p246 q4), ?_⟩
      obtain ⟨q5, H⟩ := H
      refine ⟨inb_J ((congr (congr (congrArg F246 rfl) rfl) rfl).trans (t246 q4)) q5 (by decide), ?_⟩
      obtain ⟨q6, H⟩ := H
      refine ⟨fun hc => ?_, fun hc => ?_⟩
      · replace H := H.1 ((eq_J (rd_J (jf_base _ _) ((congr (congr (congrArg F246 rfl) rfl) rfl).trans (t246 q4)) q5 (by decide)) jl_0 q6 (by decide)).mp hc)
        obtain ⟨q7, H⟩ := H
        refine ⟨inb_J rfl q7 (by decide), ?_⟩
        obtain ⟨q8, H⟩ := H
        refine ⟨inb_J ((congr (congr (congrArg F245 rfl) rfl) rfl).trans (t245 q2)) q8 (by decide), ?_⟩
        obtain ⟨q9, q10, H⟩ := H
        refine ⟨fun hc => ?_, fun hc => ?_⟩
        · replace H := H.1 ((eq_J (rd_J (jf_base _ _) rfl q7 (by decide)) (rd_J (jf_base _ _) ((congr (congr (congrArg F245 rfl) rfl) rfl).trans (t245 q2)) q8 (by decide)) q9 q10).mp hc)
          exact Ev_to (clx (cli rfl (cli rfl (cli (add_J rfl jl_1) (clx (clx rfl)))))) rfl rfl H
        · replace H := H.2 (fun hz => hc ((eq_J (rd_J (jf_base _ _) rfl q7 (by decide)) (rd_J (jf_base _ _) ((congr (congr (congrArg F245 rfl) rfl) rfl).trans (t245 q2)) q8 (by decide)) q9 q10).mpr hz))
          refine ⟨inb_J rfl q7 (by decide), ?_⟩
          refine ⟨inb_J ((congr (congr (congrArg F245 rfl) rfl) rfl).trans (t245 q2)) q8 (by decide), ?_⟩
          refine ⟨fun hc => ?_, fun hc => ?_⟩
          · replace H := H.1 ((le_J (rd_J (jf_base _ _) ((congr (congr (congrArg F245 rfl) rfl) rfl).trans (t245 q2)) q8 (by decide)) (rd_J (jf_base _ _) rfl q7 (by decide)) q10 q9).mp hc)
            refine ⟨inb_J ((congr (congr (congrArg F245 rfl) rfl) rfl).trans (t245 q2)) q8 (by decide), ?_⟩
            refine ⟨inb_J rfl q7 (by decide), ?_⟩
            refine ⟨inb_J ((congr (congr (congrArg F245 rfl) rfl) rfl).trans (t245 q2)) q8 (by decide), ?_⟩
            exact Ev_to (clx (cli jl_1 (cli rfl (cli (add_J rfl jl_1) (clx (clx rfl)))))) rfl (jm_up rfl (jf_upd (jf_upd (jf_base _ _) rfl q7 (by decide) (rd_J (jf_base _ _) ((congr (congr (congrArg F245 rfl) rfl) rfl).trans (t245 q2)) q8 (by decide))) ((congr (congr (congrArg F245 rfl) rfl) rfl).trans (t245 q2)) q8 (by decide) (rd_J (jf_base _ _) ((congr (congr (congrArg F245 rfl) rfl) rfl).trans (t245 q2)) q8 (by decide)))) H
          · replace H := H.2 (fun hz => hc ((le_J (rd_J (jf_base _ _) ((congr (congr (congrArg F245 rfl) rfl) rfl).trans (t245 q2)) q8 (by decide)) (rd_J (jf_base _ _) rfl q7 (by decide)) q10 q9).mpr hz))
            refine ⟨inb_J rfl q7 (by decide), ?_⟩
            refine ⟨inb_J rfl q7 (by decide), ?_⟩
            refine ⟨inb_J ((congr (congr (congrArg F245 rfl) rfl) rfl).trans (t245 q2)) q8 (by decide), ?_⟩
            exact Ev_to (clx (cli jl_1 (cli rfl (cli (add_J rfl jl_1) (clx (clx rfl)))))) rfl (jm_up rfl (jf_upd (jf_upd (jf_base _ _) rfl q7 (by decide) (rd_J (jf_base _ _) rfl q7 (by decide))) ((congr (congr (congrArg F245 rfl) rfl) rfl).trans (t245 q2)) q8 (by decide) (rd_J (jf_base _ _) rfl q7 (by decide)))) H
      · replace H := H.2 (fun hz => hc ((eq_J (rd_J (jf_base _ _) ((congr (congr (congrArg F246 rfl) rfl) rfl).trans (t246 q4)) q5 (by decide)) jl_0 q6 (by decide)).mpr hz))
        exact Ev_to (clx (cli rfl (cli rfl (cli (add_J rfl jl_1) (clx (clx rfl)))))) rfl rfl H
-- 258 GlassWiresModel findPaints ()I
theorem v258_0 {E : gw_N} {N : NM} {res : Option Value × gw_H}  (H : Ev 3 258 2 [some (.ref 59), some (.int (J 0)), none, none, none, none] [] (hs E (jm N)) res) : Ev 3 258 0 [some (.ref 59), none, none, none, none, none] [] (hs E (jm N)) res := by
  refine w258_0 ?_
  exact Ev_to (clx (cli jl_0 (clx (clx (clx (clx rfl)))))) rfl rfl H
theorem v258_2 {E : gw_N} {N : NM} {res : Option Value × gw_H} {x1 : Int} (H : ((R x1) ∧ (((100 : Int) ≤ x1 → Ev 3 258 23 [some (.ref 59), some (.int (J 0)), none, none, none, none] [] (hs E (jm N)) res) ∧ (¬ (100 : Int) ≤ x1 → ((0 ≤ x1 ∧ x1 < 100) ∧ Ev 3 258 2 [some (.ref 59), some (.int (J (x1 + 1))), none, none, none, none] [] (hs E (jm (upZ N 71 (updZ (N 71) x1 0)))) res))))) : Ev 3 258 2 [some (.ref 59), some (.int (J x1)), none, none, none, none] [] (hs E (jm N)) res := by
  refine w258_2 ?_
  obtain ⟨q1, H⟩ := H
  refine ⟨fun hc => ?_, fun hc => ?_⟩
  · replace H := H.1 ((le_J jl_100 rfl (by decide) q1).mp hc)
    exact Ev_to (clx (cli jl_0 (clx (clx (clx (clx rfl)))))) rfl rfl H
  · replace H := H.2 (fun hz => hc ((le_J jl_100 rfl (by decide) q1).mpr hz))
    obtain ⟨q2, H⟩ := H
    refine ⟨inb_J rfl q2 (by decide), ?_⟩
    exact Ev_to (clx (cli (add_J rfl jl_1) (clx (clx (clx (clx rfl)))))) rfl (jm_up rfl (jf_upd (jf_base _ _) rfl q2 (by decide) (and1_J jl_0 (by decide : (0 : Int) = 0 ∨ (0 : Int) = 1)))) H
theorem v258_23 {E : gw_N} {N : NM} {res : Option Value × gw_H} {x1 : Int} (H : ((R (G243 N)) ∧ ((R x1) ∧ (((G243 N) ≤ x1 → Ev 3 258 131 [some (.ref 59), some (.int (J 1)), none, none, none, none] [] (hs E (jm N)) res) ∧ (¬ (G243 N) ≤ x1 → Ev 3 258 33 [some (.ref 59), some (.int (J x1)), some (.int (J 0)), none, none, none] [] (hs E (jm N)) res))))) : Ev 3 258 23 [some (.ref 59), some (.int (J x1)), none, none, none, none] [] (hs E (jm N)) res := by
  refine w258_23 ?_
  obtain ⟨q1, q2, H⟩ := H
  refine ⟨fun hc => ?_, fun hc => ?_⟩
  · replace H := H.1 ((le_J ((congrArg F243 rfl).trans (t243)) rfl q1 q2).mp hc)
    exact Ev_to (clx (cli jl_1 (clx (clx (clx (clx rfl)))))) rfl rfl H
  · replace H := H.2 (fun hz => hc ((le_J ((congrArg F243 rfl).trans (t243)) rfl q1 q2).mpr hz))
    exact Ev_to (clx (cli rfl (cli jl_0 (clx (clx (clx rfl)))))) rfl rfl H
theorem v258_131 {E : gw_N} {N : NM} {res : Option Value × gw_H} {x1 : Int} (H : (∃ (r1 : Int) (N1 : NM), Rn 257 [.ref 59, .int (J x1)] (hs E (jm N)) (some (.int (J r1))) (hs E (jm N1)) ∧ ((R r1) ∧ ((r1 = 0 → Ev 3 258 131 [some (.ref 59), some (.int (J (x1 + 1))), none, none, none, none] [] (hs E (jm N1)) res) ∧ (¬ r1 = 0 → res = (some (.int (J x1)), hs E (jm N1))))))) : Ev 3 258 131 [some (.ref 59), some (.int (J x1)), none, none, none, none] [] (hs E (jm N)) res := by
  refine w258_131 ?_
  obtain ⟨r1, N1, q2, H⟩ := H
  refine ⟨J r1, jm N1, Rn_to (clx (cai rfl rfl)) rfl rfl q2, ?_⟩
  obtain ⟨q1, H⟩ := H
  refine ⟨fun hc => ?_, fun hc => ?_⟩
  · replace H := H.1 ((eq_J rfl jl_0 q1 (by decide)).mp hc)
    exact Ev_to (clx (cli (add_J rfl jl_1) (clx (clx (clx (clx rfl)))))) rfl rfl H
  · replace H := H.2 (fun hz => hc ((eq_J rfl jl_0 q1 (by decide)).mpr hz))
    exact H.trans (rt_i rfl rfl)
theorem v258_33 {E : gw_N} {N : NM} {res : Option Value × gw_H} {x1 : Int} {x2 : Int} (H : ((R x2) ∧ (((2 : Int) ≤ x2 → Ev 3 258 23 [some (.ref 59), some (.int (J (x1 + 1))), none, none, none, none] [] (hs E (jm N)) res) ∧ (¬ (2 : Int) ≤ x2 → ((Q245 N x1 x2) ∧ ((R (G245 N x1 x2)) ∧ (((G245 N x1 x2) = (-1) → Ev 3 258 33 [some (.ref 59), some (.int (J x1)), some (.int (J (x2 + 1))), none, none, none] [] (hs E (jm N)) res) ∧ (¬ (G245 N x1 x2) = (-1) → ((0 ≤ x1 ∧ x1 < 64) ∧ ((0 ≤ (G245 N x1 x2) ∧ (G245 N x1 x2) < 64) ∧ ((R ((N 69) x1)) ∧ ((R ((N 69) (G245 N x1 x2))) ∧ ((((N 69) x1) = ((N 69) (G245 N x1 x2)) → Ev 3 258 33 [some (.ref 59), some (.int (J x1)), some (.int (J (x2 + 1))), none, none, none] [] (hs E (jm N)) res) ∧ (¬ ((N 69) x1) = ((N 69) (G245 N x1 x2)) → (∃ (r1 : Int), Rn 254 [.ref 59, .int (J ((N 69) x1))] (hs E (jm N)) (some (.int (J r1))) (hs E (jm N)) ∧ (∃ (r2 : Int), Rn 254 [.ref 59, .int (J ((N 69) (G245 N x1 x2)))] (hs E (jm N)) (some (.int (J r2))) (hs E (jm N)) ∧ ((0 ≤ ((10 * r1) + r2) ∧ ((10 * r1) + r2) < 100) ∧ ((0 ≤ ((10 * r2) + r1) ∧ ((10 * r2) + r1) < 100) ∧ Ev 3 258 33 [some (.ref 59), some (.int (J x1)), some (.int (J (x2 + 1))), none, none, none] [] (hs E (jm (upZ N 71 (updZ (updZ (N 71) ((10 * r1) + r2) 1) ((10 * r2) + r1) 1)))) res)))))))))))))))))) : Ev 3 258 33 [some (.ref 59), some (.int (J x1)), some (.int (J x2)), none, none, none] [] (hs E (jm N)) res := by
  refine w258_33 ?_
  obtain ⟨q1, H⟩ := H
  refine ⟨fun hc => ?_, fun hc => ?_⟩
  · replace H := H.1 ((le_J jl_2 rfl (by decide) q1).mp hc)
    exact Ev_to (clx (cli (add_J rfl jl_1) (clx (clx (clx (clx rfl)))))) rfl rfl H
  · replace H := H.2 (fun hz => hc ((le_J jl_2 rfl (by decide) q1).mpr hz))
    obtain ⟨q2, H⟩ := H
    refine ⟨Eq.mpr (congr (congr (congrArg P245 rfl) rfl) rfl) (p245 q2), ?_⟩
    obtain ⟨q3, H⟩ := H
    refine ⟨fun hc => ?_, fun hc => ?_⟩
    · replace H := H.1 ((eq_J ((congr (congr (congrArg F245 rfl) rfl) rfl).trans (t245 q2)) jl_m1 q3 (by decide)).mp hc)
      exact Ev_to (clx (cli rfl (cli (add_J rfl jl_1) (clx (clx (clx rfl)))))) rfl rfl H
    · replace H := H.2 (fun hz => hc ((eq_J ((congr (congr (congrArg F245 rfl) rfl) rfl).trans (t245 q2)) jl_m1 q3 (by decide)).mpr hz))
      obtain ⟨q4, H⟩ := H
      refine ⟨inb_J rfl q4 (by decide), ?_⟩
      obtain ⟨q5, H⟩ := H
      refine ⟨inb_J ((congr (congr (congrArg F245 rfl) rfl) rfl).trans (t245 q2)) q5 (by decide), ?_⟩
      obtain ⟨q6, q7, H⟩ := H
      refine ⟨fun hc => ?_, fun hc => ?_⟩
      · replace H := H.1 ((eq_J (rd_J (jf_base _ _) rfl q4 (by decide)) (rd_J (jf_base _ _) ((congr (congr (congrArg F245 rfl) rfl) rfl).trans (t245 q2)) q5 (by decide)) q6 q7).mp hc)
        exact Ev_to (clx (cli rfl (cli (add_J rfl jl_1) (clx (clx (clx rfl)))))) rfl rfl H
      · replace H := H.2 (fun hz => hc ((eq_J (rd_J (jf_base _ _) rfl q4 (by decide)) (rd_J (jf_base _ _) ((congr (congr (congrArg F245 rfl) rfl) rfl).trans (t245 q2)) q5 (by decide)) q6 q7).mpr hz))
        refine ⟨inb_J rfl q4 (by decide), ?_⟩
        obtain ⟨r1, q11, H⟩ := H
        refine ⟨J r1, Rn_to (clx (cai (rd_J (jf_base _ _) rfl q4 (by decide)) rfl)) rfl rfl q11, ?_⟩
        refine ⟨inb_J ((congr (congr (congrArg F245 rfl) rfl) rfl).trans (t245 q2)) q5 (by decide), ?_⟩
        obtain ⟨r2, q10, H⟩ := H
        refine ⟨J r2, Rn_to (clx (cai (rd_J (jf_base _ _) ((congr (congr (congrArg F245 rfl) rfl) rfl).trans (t245 q2)) q5 (by decide)) rfl)) rfl rfl q10, ?_⟩
        obtain ⟨q8, H⟩ := H
        refine ⟨inb_J (add_J (mul_J jl_10 rfl) rfl) q8 (by decide), ?_⟩
        obtain ⟨q9, H⟩ := H
        refine ⟨inb_J (add_J (mul_J jl_10 rfl) rfl) q9 (by decide), ?_⟩
        exact Ev_to (clx (cli rfl (cli (add_J rfl jl_1) (clx (clx (clx rfl)))))) rfl (jm_up rfl (jf_upd (jf_upd (jf_base _ _) (add_J (mul_J jl_10 rfl) rfl) q8 (by decide) (and1_J jl_1 (by decide : (1 : Int) = 0 ∨ (1 : Int) = 1))) (add_J (mul_J jl_10 rfl) rfl) q9 (by decide) (and1_J jl_1 (by decide : (1 : Int) = 0 ∨ (1 : Int) = 1)))) H
-- 262 GlassWiresModel colour (III)I
theorem v262_0 {E : gw_N} {N : NM} {res : Option Value × gw_H} {x1 : Int} {x2 : Int} {x3 : Int} (H : ((Q261 N x1) ∧ ((R (G261 N x1)) ∧ (((G261 N x1) = 0 → Ev 3 262 19 [none, none, none, none, none] [] (hs E (jm N)) res) ∧ (¬ (G261 N x1) = 0 → ((R x2) ∧ (((if 0 ≤ x2 ∧ x2 ≤ 2 then (1 : Int) else 0) = 0 → Ev 3 262 19 [none, none, none, none, none] [] (hs E (jm N)) res) ∧ (¬ (if 0 ≤ x2 ∧ x2 ≤ 2 then (1 : Int) else 0) = 0 → ((x2 = 0 → Ev 3 262 33 [some (.ref 59), some (.int (J x1)), some (.int (J x2)), some (.int (J x3)), none] [.long 1, .long (Int32.toInt64 (J x3))] (hs E (jm N)) res) ∧ (¬ x2 = 0 → Ev 3 262 33 [some (.ref 59), some (.int (J x1)), some (.int (J x2)), some (.int (J x3)), none] [.long 0, .long (Int32.toInt64 (J x3))] (hs E (jm N)) res)))))))))) : Ev 3 262 0 [some (.ref 59), some (.int (J x1)), some (.int (J x2)), some (.int (J x3)), none] [] (hs E (jm N)) res := by
  refine w262_0 ?_
  obtain ⟨q1, H⟩ := H
  obtain ⟨q2, H⟩ := H
  refine ⟨fun hc => ?_, fun hc => ?_⟩
  · replace H := H.1 ((eq_J ((congr (congrArg F261 rfl) rfl).trans (t261 q1)) jl_0 q2 (by decide)).mp hc)
    exact Ev_to (clx (clx (clx (clx (clx rfl))))) rfl rfl H
  · replace H := H.2 (fun hz => hc ((eq_J ((congr (congrArg F261 rfl) rfl).trans (t261 q1)) jl_0 q2 (by decide)).mpr hz))
    obtain ⟨q3, H⟩ := H
    refine ⟨fun hc => ?_, fun hc => ?_⟩
    · replace H := H.1 ((eq_J (in_J (congrArg Int32.toInt64 rfl) ll_0 ll_2 q3 (by decide) (by decide)) jl_0 R_in (by decide)).mp hc)
      exact Ev_to (clx (clx (clx (clx (clx rfl))))) rfl rfl H
    · replace H := H.2 (fun hz => hc ((eq_J (in_J (congrArg Int32.toInt64 rfl) ll_0 ll_2 q3 (by decide) (by decide)) jl_0 R_in (by decide)).mpr hz))
      refine ⟨fun hc => ?_, fun hc => ?_⟩
      · replace H := H.1 ((eq_J rfl jl_0 q3 (by decide)).mp hc)
        exact Ev_to (clx (cli rfl (cli rfl (cli rfl (clx rfl))))) (cal rfl (cal (congrArg Int32.toInt64 rfl) rfl)) rfl H
      · replace H := H.2 (fun hz => hc ((eq_J rfl jl_0 q3 (by decide)).mpr hz))
        exact Ev_to (clx (cli rfl (cli rfl (cli rfl (clx rfl))))) (cal rfl (cal (congrArg Int32.toInt64 rfl) rfl)) rfl H
theorem v262_19 {E : gw_N} {N : NM} {res : Option Value × gw_H}  (H : res = (some (.int (J (-101))), hs E (jm N))) : Ev 3 262 19 [none, none, none, none, none] [] (hs E (jm N)) res := by
  refine w262_19 ?_
  exact H.trans (rt_i jl_m101 rfl)
theorem v262_33 {E : gw_N} {N : NM} {res : Option Value × gw_H} {x1 : Int} {x2 : Int} {x3 : Int} {y0 : Int64} {y1 : Int64} (H : ((R x2) ∧ ((x2 = 0 → Ev 3 262 57 [some (.ref 59), some (.int (J x1)), some (.int (J x2)), some (.int (J x3)), none] [.long 900, .long y1, .long y0] (hs E (jm N)) res) ∧ (¬ x2 = 0 → ((x2 = 1 → Ev 3 262 57 [some (.ref 59), some (.int (J x1)), some (.int (J x2)), some (.int (J x3)), none] [.long 9, .long y1, .long y0] (hs E (jm N)) res) ∧ (¬ x2 = 1 → Ev 3 262 57 [some (.ref 59), some (.int (J x1)), some (.int (J x2)), some (.int (J x3)), none] [.long 99, .long y1, .long y0] (hs E (jm N)) res)))))) : Ev 3 262 33 [some (.ref 59), some (.int (J x1)), some (.int (J x2)), some (.int (J x3)), none] [.long y1, .long y0] (hs E (jm N)) res := by
  refine w262_33 ?_
  obtain ⟨q1, H⟩ := H
  refine ⟨fun hc => ?_, fun hc => ?_⟩
  · replace H := H.1 ((eq_J rfl jl_0 q1 (by decide)).mp hc)
    exact Ev_to (clx (cli rfl (cli rfl (cli rfl (clx rfl))))) (cal rfl (cal rfl (cal rfl rfl))) rfl H
  · replace H := H.2 (fun hz => hc ((eq_J rfl jl_0 q1 (by decide)).mpr hz))
    refine ⟨fun hc => ?_, fun hc => ?_⟩
    · replace H := H.1 ((eq_J rfl jl_1 q1 (by decide)).mp hc)
      exact Ev_to (clx (cli rfl (cli rfl (cli rfl (clx rfl))))) (cal rfl (cal rfl (cal rfl rfl))) rfl H
    · replace H := H.2 (fun hz => hc ((eq_J rfl jl_1 q1 (by decide)).mpr hz))
      exact Ev_to (clx (cli rfl (cli rfl (cli rfl (clx rfl))))) (cal rfl (cal rfl (cal rfl rfl))) rfl H
theorem v262_57 {E : gw_N} {N : NM} {res : Option Value × gw_H} {x1 : Int} {x2 : Int} {x3 : Int} {y0 : Int64} {y1 : Int64} {y2 : Int64} (H : ((R (G209 N y0 y1 y2)) ∧ (((G209 N y0 y1 y2) = 0 → res = (some (.int (J (-102))), hs E (jm N))) ∧ (¬ (G209 N y0 y1 y2) = 0 → ((R x2) ∧ ((x2 = 0 → ((0 ≤ x1 ∧ x1 < 8) ∧ Ev 3 262 99 [some (.ref 59), some (.int (J x1)), some (.int (J x2)), some (.int (J x3)), none] [.int (J ((N 73) x1))] (hs E (jm N)) res)) ∧ (¬ x2 = 0 → ((x2 = 1 → ((0 ≤ x1 ∧ x1 < 8) ∧ Ev 3 262 99 [some (.ref 59), some (.int (J x1)), some (.int (J x2)), some (.int (J x3)), none] [.int (J ((N 74) x1))] (hs E (jm N)) res)) ∧ (¬ x2 = 1 → ((0 ≤ x1 ∧ x1 < 8) ∧ Ev 3 262 99 [some (.ref 59), some (.int (J x1)), some (.int (J x2)), some (.int (J x3)), none] [.int (J ((N 75) x1))] (hs E (jm N)) res)))))))))) : Ev 3 262 57 [some (.ref 59), some (.int (J x1)), some (.int (J x2)), some (.int (J x3)), none] [.long y2, .long y1, .long y0] (hs E (jm N)) res := by
  refine w262_57 ?_
  obtain ⟨q1, H⟩ := H
  refine ⟨fun hc => ?_, fun hc => ?_⟩
  · replace H := H.1 ((eq_J ((congr (congr (congr (congrArg F209 rfl) rfl) rfl) rfl).trans (t209)) jl_0 q1 (by decide)).mp hc)
    exact H.trans (rt_i jl_m102 rfl)
  · replace H := H.2 (fun hz => hc ((eq_J ((congr (congr (congr (congrArg F209 rfl) rfl) rfl) rfl).trans (t209)) jl_0 q1 (by decide)).mpr hz))
    obtain ⟨q2, H⟩ := H
    refine ⟨fun hc => ?_, fun hc => ?_⟩
    · replace H := H.1 ((eq_J rfl jl_0 q2 (by decide)).mp hc)
      obtain ⟨q3, H⟩ := H
      refine ⟨inb_J rfl q3 (by decide), ?_⟩
      exact Ev_to (clx (cli rfl (cli rfl (cli rfl (clx rfl))))) (cai (rd_J (jf_base _ _) rfl q3 (by decide)) rfl) rfl H
    · replace H := H.2 (fun hz => hc ((eq_J rfl jl_0 q2 (by decide)).mpr hz))
      refine ⟨fun hc => ?_, fun hc => ?_⟩
      · replace H := H.1 ((eq_J rfl jl_1 q2 (by decide)).mp hc)
        obtain ⟨q4, H⟩ := H
        refine ⟨inb_J rfl q4 (by decide), ?_⟩
        exact Ev_to (clx (cli rfl (cli rfl (cli rfl (clx rfl))))) (cai (rd_J (jf_base _ _) rfl q4 (by decide)) rfl) rfl H
      · replace H := H.2 (fun hz => hc ((eq_J rfl jl_1 q2 (by decide)).mpr hz))
        obtain ⟨q5, H⟩ := H
        refine ⟨inb_J rfl q5 (by decide), ?_⟩
        exact Ev_to (clx (cli rfl (cli rfl (cli rfl (clx rfl))))) (cai (rd_J (jf_base _ _) rfl q5 (by decide)) rfl) rfl H
theorem v262_99 {E : gw_N} {N : NM} {res : Option Value × gw_H} {x1 : Int} {x2 : Int} {x3 : Int} {y0 : Int} (H : ((R x2) ∧ ((x2 = 0 → Ev 3 262 120 [some (.ref 59), some (.int (J x1)), some (.int (J x2)), some (.int (J x3)), some (.int (J y0))] [.int (J x3), .int (J x1), .ref 73] (hs E (jm N)) res) ∧ (¬ x2 = 0 → ((0 ≤ x1 ∧ x1 < 8) ∧ Ev 3 262 120 [some (.ref 59), some (.int (J x1)), some (.int (J x2)), some (.int (J x3)), some (.int (J y0))] [.int (J ((N 73) x1)), .int (J x1), .ref 73] (hs E (jm N)) res))))) : Ev 3 262 99 [some (.ref 59), some (.int (J x1)), some (.int (J x2)), some (.int (J x3)), none] [.int (J y0)] (hs E (jm N)) res := by
  refine w262_99 ?_
  obtain ⟨q1, H⟩ := H
  refine ⟨fun hc => ?_, fun hc => ?_⟩
  · replace H := H.1 ((eq_J rfl jl_0 q1 (by decide)).mp hc)
    exact Ev_to (clx (cli rfl (cli rfl (cli rfl (cli rfl rfl))))) (cai rfl (cai rfl (clx rfl))) rfl H
  · replace H := H.2 (fun hz => hc ((eq_J rfl jl_0 q1 (by decide)).mpr hz))
    obtain ⟨q2, H⟩ := H
    refine ⟨inb_J rfl q2 (by decide), ?_⟩
    exact Ev_to (clx (cli rfl (cli rfl (cli rfl (cli rfl rfl))))) (cai (rd_J (jf_base _ _) rfl q2 (by decide)) (cai rfl (clx rfl))) rfl H
theorem v262_120 {E : gw_N} {N : NM} {res : Option Value × gw_H} {x1 : Int} {x2 : Int} {x3 : Int} {x4 : Int} {y1 : Int} {y2 : Int} (H : ((0 ≤ y1 ∧ y1 < 8) ∧ ((R x2) ∧ ((x2 = 1 → Ev 3 262 141 [some (.ref 59), some (.int (J x1)), some (.int (J x2)), some (.int (J x3)), some (.int (J x4))] [.int (J x3), .int (J x1), .ref 74] (hs E (jm (upZ N 73 (updZ (N 73) y1 y2)))) res) ∧ (¬ x2 = 1 → ((0 ≤ x1 ∧ x1 < 8) ∧ Ev 3 262 141 [some (.ref 59), some (.int (J x1)), some (.int (J x2)), some (.int (J x3)), some (.int (J x4))] [.int (J ((N 74) x1)), .int (J x1), .ref 74] (hs E (jm (upZ N 73 (updZ (N 73) y1 y2)))) res)))))) : Ev 3 262 120 [some (.ref 59), some (.int (J x1)), some (.int (J x2)), some (.int (J x3)), some (.int (J x4))] [.int (J y2), .int (J y1), .ref 73] (hs E (jm N)) res := by
  refine w262_120 ?_
  obtain ⟨q1, H⟩ := H
  refine ⟨inb_J rfl q1 (by decide), ?_⟩
  obtain ⟨q2, H⟩ := H
  refine ⟨fun hc => ?_, fun hc => ?_⟩
  · replace H := H.1 ((eq_J rfl jl_1 q2 (by decide)).mp hc)
    exact Ev_to (clx (cli rfl (cli rfl (cli rfl (cli rfl rfl))))) (cai rfl (cai rfl (clx rfl))) (jm_up rfl (jf_upd (jf_base _ _) rfl q1 (by decide) rfl)) H
  · replace H := H.2 (fun hz => hc ((eq_J rfl jl_1 q2 (by decide)).mpr hz))
    obtain ⟨q3, H⟩ := H
    refine ⟨inb_J rfl q3 (by decide), ?_⟩
    exact Ev_to (clx (cli rfl (cli rfl (cli rfl (cli rfl rfl))))) (cai (rd_J (jf_base _ _) rfl q3 (by decide)) (cai rfl (clx rfl))) (jm_up rfl (jf_upd (jf_base _ _) rfl q1 (by decide) rfl)) H
theorem v262_141 {E : gw_N} {N : NM} {res : Option Value × gw_H} {x1 : Int} {x2 : Int} {x3 : Int} {x4 : Int} {y1 : Int} {y2 : Int} (H : ((0 ≤ y1 ∧ y1 < 8) ∧ ((R x2) ∧ ((x2 = 2 → Ev 3 262 162 [none, none, none, none, some (.int (J x4))] [.int (J x3), .int (J x1), .ref 75] (hs E (jm (upZ N 74 (updZ (N 74) y1 y2)))) res) ∧ (¬ x2 = 2 → ((0 ≤ x1 ∧ x1 < 8) ∧ Ev 3 262 162 [none, none, none, none, some (.int (J x4))] [.int (J ((N 75) x1)), .int (J x1), .ref 75] (hs E (jm (upZ N 74 (updZ (N 74) y1 y2)))) res)))))) : Ev 3 262 141 [some (.ref 59), some (.int (J x1)), some (.int (J x2)), some (.int (J x3)), some (.int (J x4))] [.int (J y2), .int (J y1), .ref 74] (hs E (jm N)) res := by
  refine w262_141 ?_
  obtain ⟨q1, H⟩ := H
  refine ⟨inb_J rfl q1 (by decide), ?_⟩
  obtain ⟨q2, H⟩ := H
  refine ⟨fun hc => ?_, fun hc => ?_⟩
  · replace H := H.1 ((eq_J rfl jl_2 q2 (by decide)).mp hc)
    exact Ev_to (clx (clx (clx (clx (cli rfl rfl))))) (cai rfl (cai rfl (clx rfl))) (jm_up rfl (jf_upd (jf_base _ _) rfl q1 (by decide) rfl)) H
  · replace H := H.2 (fun hz => hc ((eq_J rfl jl_2 q2 (by decide)).mpr hz))
    obtain ⟨q3, H⟩ := H
    refine ⟨inb_J rfl q3 (by decide), ?_⟩
    exact Ev_to (clx (clx (clx (clx (cli rfl rfl))))) (cai (rd_J (jf_base _ _) rfl q3 (by decide)) (cai rfl (clx rfl))) (jm_up rfl (jf_upd (jf_base _ _) rfl q1 (by decide) rfl)) H
theorem v262_162 {E : gw_N} {N : NM} {res : Option Value × gw_H} {x4 : Int} {y1 : Int} {y2 : Int} (H : ((0 ≤ y1 ∧ y1 < 8) ∧ res = (some (.int (J x4)), hs E (jm (upZ N 75 (updZ (N 75) y1 y2)))))) : Ev 3 262 162 [none, none, none, none, some (.int (J x4))] [.int (J y2), .int (J y1), .ref 75] (hs E (jm N)) res := by
  refine w262_162 ?_
  obtain ⟨q1, H⟩ := H
  refine ⟨inb_J rfl q1 (by decide), ?_⟩
  exact H.trans (rt_i rfl (jm_up rfl (jf_upd (jf_base _ _) rfl q1 (by decide) rfl)))
-- 263 GlassWiresModel foes (IIZ)I
theorem v263_0 {E : gw_N} {N : NM} {res : Option Value × gw_H} {x1 : Int} {x2 : Int} {x3 : Int} (H : ((Q261 N x1) ∧ ((R (G261 N x1)) ∧ (((G261 N x1) = 0 → res = (some (.int (J (-101))), hs E (jm N))) ∧ (¬ (G261 N x1) = 0 → ((Q261 N x2) ∧ ((R (G261 N x2)) ∧ (((G261 N x2) = 0 → res = (some (.int (J (-101))), hs E (jm N))) ∧ (¬ (G261 N x2) = 0 → ((R x1) ∧ ((R x2) ∧ ((x1 = x2 → res = (some (.int (J (-102))), hs E (jm N))) ∧ (¬ x1 = x2 → ((0 ≤ ((8 * x1) + x2) ∧ ((8 * x1) + x2) < 64) ∧ ((R ((N 76) ((8 * x1) + x2))) ∧ ((((N 76) ((8 * x1) + x2)) = 0 → ((0 ≤ ((8 * x2) + x1) ∧ ((8 * x2) + x1) < 64) ∧ ((x3 = 0 ∨ x3 = 1) ∧ res = (some (.int (J 0)), hs E (jm (upZ N 76 (updZ (updZ (N 76) ((8 * x1) + x2) x3) ((8 * x2) + x1) x3))))))) ∧ (¬ ((N 76) ((8 * x1) + x2)) = 0 → ((0 ≤ ((8 * x2) + x1) ∧ ((8 * x2) + x1) < 64) ∧ ((x3 = 0 ∨ x3 = 1) ∧ res = (some (.int (J 1)), hs E (jm (upZ N 76 (updZ (updZ (N 76) ((8 * x1) + x2) x3) ((8 * x2) + x1) x3))))))))))))))))))))))) : Ev 3 263 0 [some (.ref 59), some (.int (J x1)), some (.int (J x2)), some (.int (J x3)), none] [] (hs E (jm N)) res := by
  refine w263_0 ?_
  obtain ⟨q1, H⟩ := H
  obtain ⟨q2, H⟩ := H
  refine ⟨fun hc => ?_, fun hc => ?_⟩
  · replace H := H.1 ((eq_J ((congr (congrArg F261 rfl) rfl).trans (t261 q1)) jl_0 q2 (by decide)).mp hc)
    exact H.trans (rt_i jl_m101 rfl)
  · replace H := H.2 (fun hz => hc ((eq_J ((congr (congrArg F261 rfl) rfl).trans (t261 q1)) jl_0 q2 (by decide)).mpr hz))
    obtain ⟨q3, H⟩ := H
    obtain ⟨q4, H⟩ := H
    refine ⟨fun hc => ?_, fun hc => ?_⟩
    · replace H := H.1 ((eq_J ((congr (congrArg F261 rfl) rfl).trans (t261 q3)) jl_0 q4 (by decide)).mp hc)
      exact H.trans (rt_i jl_m101 rfl)
    · replace H := H.2 (fun hz => hc ((eq_J ((congr (congrArg F261 rfl) rfl).trans (t261 q3)) jl_0 q4 (by decide)).mpr hz))
      obtain ⟨q5, q6, H⟩ := H
      refine ⟨fun hc => ?_, fun hc => ?_⟩
      · replace H := H.1 ((eq_J rfl rfl q5 q6).mp hc)
        exact H.trans (rt_i jl_m102 rfl)
      · replace H := H.2 (fun hz => hc ((eq_J rfl rfl q5 q6).mpr hz))
        obtain ⟨q7, H⟩ := H
        refine ⟨inb_J (add_J (mul_J jl_8 rfl) rfl) q7 (by decide), ?_⟩
        obtain ⟨q8, H⟩ := H
        refine ⟨fun hc => ?_, fun hc => ?_⟩
        · replace H := H.1 ((eq_J (rd_J (jf_base _ _) (add_J (mul_J jl_8 rfl) rfl) q7 (by decide)) jl_0 q8 (by decide)).mp hc)
          refine ⟨inb_J (add_J (mul_J jl_8 rfl) rfl) q7 (by decide), ?_⟩
          obtain ⟨q9, H⟩ := H
          refine ⟨inb_J (add_J (mul_J jl_8 rfl) rfl) q9 (by decide), ?_⟩
          obtain ⟨q10, H⟩ := H
          exact H.trans (rt_i jl_0 (jm_up rfl (jf_upd (jf_upd (jf_base _ _) (add_J (mul_J jl_8 rfl) rfl) q7 (by decide) (and1_J rfl q10)) (add_J (mul_J jl_8 rfl) rfl) q9 (by decide) (and1_J rfl q10))))
        · replace H := H.2 (fun hz => hc ((eq_J (rd_J (jf_base _ _) (add_J (mul_J jl_8 rfl) rfl) q7 (by decide)) jl_0 q8 (by decide)).mpr hz))
          refine ⟨inb_J (add_J (mul_J jl_8 rfl) rfl) q7 (by decide), ?_⟩
          obtain ⟨q11, H⟩ := H
          refine ⟨inb_J (add_J (mul_J jl_8 rfl) rfl) q11 (by decide), ?_⟩
          obtain ⟨q12, H⟩ := H
          exact H.trans (rt_i jl_1 (jm_up rfl (jf_upd (jf_upd (jf_base _ _) (add_J (mul_J jl_8 rfl) rfl) q7 (by decide) (and1_J rfl q12)) (add_J (mul_J jl_8 rfl) rfl) q11 (by decide) (and1_J rfl q12))))
-- 268 GlassWiresModel field (III)I
theorem v268_0 {E : gw_N} {N : NM} {res : Option Value × gw_H} {x1 : Int} {x2 : Int} {x3 : Int} (H : ((Q244 N x1 x2) ∧ ((R (G244 N x1 x2)) ∧ (((G244 N x1 x2) = 0 → res = (some (.int (J (-101))), hs E (jm N))) ∧ (¬ (G244 N x1 x2) = 0 → ((R x3) ∧ ((x3 = 0 → (∃ (r1 : Int), Rn 267 [.ref 59, .int (J ((((N 59) 0) * x2) + x1))] (hs E (jm N)) (some (.int (J r1))) (hs E (jm N)) ∧ res = (some (.int (J r1)), hs E (jm N)))) ∧ (¬ x3 = 0 → ((x3 = 1 → ((0 ≤ ((((N 59) 0) * x2) + x1) ∧ ((((N 59) 0) * x2) + x1) < 64) ∧ res = (some (.int (J ((N 77) ((((N 59) 0) * x2) + x1)))), hs E (jm N)))) ∧ (¬ x3 = 1 → res = (some (.int (J (-102))), hs E (jm N)))))))))))) : Ev 3 268 0 [some (.ref 59), some (.int (J x1)), some (.int (J x2)), some (.int (J x3)), none] [] (hs E (jm N)) res := by
  refine w268_0 ?_
  obtain ⟨q1, H⟩ := H
  obtain ⟨q2, H⟩ := H
  refine ⟨fun hc => ?_, fun hc => ?_⟩
  · replace H := H.1 ((eq_J ((congr (congr (congrArg F244 rfl) rfl) rfl).trans (t244 q1)) jl_0 q2 (by decide)).mp hc)
    exact H.trans (rt_i jl_m101 rfl)
  · replace H := H.2 (fun hz => hc ((eq_J ((congr (congr (congrArg F244 rfl) rfl) rfl).trans (t244 q1)) jl_0 q2 (by decide)).mpr hz))
    obtain ⟨q3, H⟩ := H
    refine ⟨fun hc => ?_, fun hc => ?_⟩
    · replace H := H.1 ((eq_J rfl jl_0 q3 (by decide)).mp hc)
      obtain ⟨r1, q4, H⟩ := H
      refine ⟨J r1, Rn_to (clx (cai (add_J (mul_J (fld_J (jf_base _ _)) rfl) rfl) rfl)) rfl rfl q4, ?_⟩
      exact H.trans (rt_i rfl rfl)
    · replace H := H.2 (fun hz => hc ((eq_J rfl jl_0 q3 (by decide)).mpr hz))
      refine ⟨fun hc => ?_, fun hc => ?_⟩
      · replace H := H.1 ((eq_J rfl jl_1 q3 (by decide)).mp hc)
        obtain ⟨q5, H⟩ := H
        refine ⟨inb_J (add_J (mul_J (fld_J (jf_base _ _)) rfl) rfl) q5 (by decide), ?_⟩
        exact H.trans (rt_i (rd_J (jf_base _ _) (add_J (mul_J (fld_J (jf_base _ _)) rfl) rfl) q5 (by decide)) rfl)
      · replace H := H.2 (fun hz => hc ((eq_J rfl jl_1 q3 (by decide)).mpr hz))
        exact H.trans (rt_i jl_m102 rfl)
-- 269 GlassWiresModel layer (IIII)I
theorem v269_0 {E : gw_N} {N : NM} {res : Option Value × gw_H} {x1 : Int} {x2 : Int} {x3 : Int} {x4 : Int} (H : ((Q244 N x1 x2) ∧ ((R (G244 N x1 x2)) ∧ (((G244 N x1 x2) = 0 → res = (some (.int (J (-101))), hs E (jm N))) ∧ (¬ (G244 N x1 x2) = 0 → ((R x4) ∧ (((if 0 ≤ x4 ∧ x4 ≤ 2 then (1 : Int) else 0) = 0 → res = (some (.int (J (-102))), hs E (jm N))) ∧ (¬ (if 0 ≤ x4 ∧ x4 ≤ 2 then (1 : Int) else 0) = 0 → ((0 ≤ ((((N 59) 0) * x2) + x1) ∧ ((((N 59) 0) * x2) + x1) < 64) ∧ ((R x3) ∧ ((R (((N 77) ((((N 59) 0) * x2) + x1)) - 1)) ∧ (((if 0 ≤ x3 ∧ x3 ≤ (((N 77) ((((N 59) 0) * x2) + x1)) - 1) then (1 : Int) else 0) = 0 → res = (some (.int (J (-1))), hs E (jm N))) ∧ (¬ (if 0 ≤ x3 ∧ x3 ≤ (((N 77) ((((N 59) 0) * x2) + x1)) - 1) then (1 : Int) else 0) = 0 → ((x4 = 0 → ((0 ≤ ((12 * ((((N 59) 0) * x2) + x1)) + x3) ∧ ((12 * ((((N 59) 0) * x2) + x1)) + x3) < 768) ∧ res = (some (.int (J ((N 78) ((12 * ((((N 59) 0) * x2) + x1)) + x3)))), hs E (jm N)))) ∧ (¬ x4 = 0 → ((x4 = 1 → ((0 ≤ ((12 * ((((N 59) 0) * x2) + x1)) + x3) ∧ ((12 * ((((N 59) 0) * x2) + x1)) + x3) < 768) ∧ res = (some (.int (J ((N 79) ((12 * ((((N 59) 0) * x2) + x1)) + x3)))), hs E (jm N)))) ∧ (¬ x4 = 1 → ((0 ≤ ((12 * ((((N 59) 0) * x2) + x1)) + x3) ∧ ((12 * ((((N 59) 0) * x2) + x1)) + x3) < 768) ∧ res = (some (.int (J ((N 80) ((12 * ((((N 59) 0) * x2) + x1)) + x3)))), hs E (jm N)))))))))))))))))))) : Ev 3 269 0 [some (.ref 59), some (.int (J x1)), some (.int (J x2)), some (.int (J x3)), some (.int (J x4)), none, none] [] (hs E (jm N)) res := by
  refine w269_0 ?_
  obtain ⟨q1, H⟩ := H
  obtain ⟨q2, H⟩ := H
  refine ⟨fun hc => ?_, fun hc => ?_⟩
  · replace H := H.1 ((eq_J ((congr (congr (congrArg F244 rfl) rfl) rfl).trans (t244 q1)) jl_0 q2 (by decide)).mp hc)
    exact H.trans (rt_i jl_m101 rfl)
  · replace H := H.2 (fun hz => hc ((eq_J ((congr (congr (congrArg F244 rfl) rfl) rfl).trans (t244 q1)) jl_0 q2 (by decide)).mpr hz))
    obtain ⟨q3, H⟩ := H
    refine ⟨fun hc => ?_, fun hc => ?_⟩
    · replace H := H.1 ((eq_J (in_J (congrArg Int32.toInt64 rfl) ll_0 ll_2 q3 (by decide) (by decide)) jl_0 R_in (by decide)).mp hc)
      exact H.trans (rt_i jl_m102 rfl)
    · replace H := H.2 (fun hz => hc ((eq_J (in_J (congrArg Int32.toInt64 rfl) ll_0 ll_2 q3 (by decide) (by decide)) jl_0 R_in (by decide)).mpr hz))
      obtain ⟨q4, H⟩ := H
      refine ⟨inb_J (add_J (mul_J (fld_J (jf_base _ _)) rfl) rfl) q4 (by decide), ?_⟩
      obtain ⟨q5, q6, H⟩ := H
      refine ⟨fun hc => ?_, fun hc => ?_⟩
      · replace H := H.1 ((eq_J (in_J (congrArg Int32.toInt64 rfl) ll_0 (congrArg Int32.toInt64 (sub_J (rd_J (jf_base _ _) (add_J (mul_J (fld_J (jf_base _ _)) rfl) rfl) q4 (by decide)) jl_1)) q5 (by decide) q6) jl_0 R_in (by decide)).mp hc)
        exact H.trans (rt_i jl_m1 rfl)
      · replace H := H.2 (fun hz => hc ((eq_J (in_J (congrArg Int32.toInt64 rfl) ll_0 (congrArg Int32.toInt64 (sub_J (rd_J (jf_base _ _) (add_J (mul_J (fld_J (jf_base _ _)) rfl) rfl) q4 (by decide)) jl_1)) q5 (by decide) q6) jl_0 R_in (by decide)).mpr hz))
        refine ⟨fun hc => ?_, fun hc => ?_⟩
        · replace H := H.1 ((eq_J rfl jl_0 q3 (by decide)).mp hc)
          obtain ⟨q7, H⟩ := H
          refine ⟨inb_J (add_J (mul_J jl_12 (add_J (mul_J (fld_J (jf_base _ _)) rfl) rfl)) rfl) q7 (by decide), ?_⟩
          exact H.trans (rt_i (rd_J (jf_base _ _) (add_J (mul_J jl_12 (add_J (mul_J (fld_J (jf_base _ _)) rfl) rfl)) rfl) q7 (by decide)) rfl)
        · replace H := H.2 (fun hz => hc ((eq_J rfl jl_0 q3 (by decide)).mpr hz))
          refine ⟨fun hc => ?_, fun hc => ?_⟩
          · replace H := H.1 ((eq_J rfl jl_1 q3 (by decide)).mp hc)
            obtain ⟨q8, H⟩ := H
            refine ⟨inb_J (add_J (mul_J jl_12 (add_J (mul_J (fld_J (jf_base _ _)) rfl) rfl)) rfl) q8 (by decide), ?_⟩
            exact H.trans (rt_i (rd_J (jf_base _ _) (add_J (mul_J jl_12 (add_J (mul_J (fld_J (jf_base _ _)) rfl) rfl)) rfl) q8 (by decide)) rfl)
          · replace H := H.2 (fun hz => hc ((eq_J rfl jl_1 q3 (by decide)).mpr hz))
            obtain ⟨q9, H⟩ := H
            refine ⟨inb_J (add_J (mul_J jl_12 (add_J (mul_J (fld_J (jf_base _ _)) rfl) rfl)) rfl) q9 (by decide), ?_⟩
            exact H.trans (rt_i (rd_J (jf_base _ _) (add_J (mul_J jl_12 (add_J (mul_J (fld_J (jf_base _ _)) rfl) rfl)) rfl) q9 (by decide)) rfl)
def G269 (N : NM) (x1 : Int) (x2 : Int) (x3 : Int) (x4 : Int) : Int := (if (G244 N x1 x2) = 0 then (-101) else (if (if 0 ≤ x4 ∧ x4 ≤ 2 then (1 : Int) else 0) = 0 then (-102) else (if (if 0 ≤ x3 ∧ x3 ≤ (((N 77) ((((N 59) 0) * x2) + x1)) - 1) then (1 : Int) else 0) = 0 then (-1) else (if x4 = 0 then ((N 78) ((12 * ((((N 59) 0) * x2) + x1)) + x3)) else (if x4 = 1 then ((N 79) ((12 * ((((N 59) 0) * x2) + x1)) + x3)) else ((N 80) ((12 * ((((N 59) 0) * x2) + x1)) + x3)))))))
def Q269 (N : NM) (x1 : Int) (x2 : Int) (x3 : Int) (x4 : Int) : Prop := ((Q244 N x1 x2) ∧ ((R (G244 N x1 x2)) ∧ (((G244 N x1 x2) = 0 → True) ∧ (¬ (G244 N x1 x2) = 0 → ((R x4) ∧ (((if 0 ≤ x4 ∧ x4 ≤ 2 then (1 : Int) else 0) = 0 → True) ∧ (¬ (if 0 ≤ x4 ∧ x4 ≤ 2 then (1 : Int) else 0) = 0 → ((0 ≤ ((((N 59) 0) * x2) + x1) ∧ ((((N 59) 0) * x2) + x1) < 64) ∧ ((R x3) ∧ ((R (((N 77) ((((N 59) 0) * x2) + x1)) - 1)) ∧ (((if 0 ≤ x3 ∧ x3 ≤ (((N 77) ((((N 59) 0) * x2) + x1)) - 1) then (1 : Int) else 0) = 0 → True) ∧ (¬ (if 0 ≤ x3 ∧ x3 ≤ (((N 77) ((((N 59) 0) * x2) + x1)) - 1) then (1 : Int) else 0) = 0 → ((x4 = 0 → ((0 ≤ ((12 * ((((N 59) 0) * x2) + x1)) + x3) ∧ ((12 * ((((N 59) 0) * x2) + x1)) + x3) < 768) ∧ True)) ∧ (¬ x4 = 0 → ((x4 = 1 → ((0 ≤ ((12 * ((((N 59) 0) * x2) + x1)) + x3) ∧ ((12 * ((((N 59) 0) * x2) + x1)) + x3) < 768) ∧ True)) ∧ (¬ x4 = 1 → ((0 ≤ ((12 * ((((N 59) 0) * x2) + x1)) + x3) ∧ ((12 * ((((N 59) 0) * x2) + x1)) + x3) < 768) ∧ True)))))))))))))))))
theorem t269 {N : NM} {x1 : Int} {x2 : Int} {x3 : Int} {x4 : Int} (H : Q269 N x1 x2 x3 x4) : F269 (jm N) (J x1) (J x2) (J x3) (J x4) = J (G269 N x1 x2 x3 x4) := by
  unfold Q269 at H
  unfold F269 G269
  obtain ⟨q1, H⟩ := H
  obtain ⟨q2, H⟩ := H
  refine ite_J (eq_J ((congr (congr (congrArg F244 rfl) rfl) rfl).trans (t244 q1)) jl_0 q2 (by decide)) (fun hc => ?_) (fun hc => ?_)
  · replace H := H.1 ((eq_J ((congr (congr (congrArg F244 rfl) rfl) rfl).trans (t244 q1)) jl_0 q2 (by decide)).mp hc)
    exact jl_m101
  · replace H := H.2 (fun hz => hc ((eq_J ((congr (congr (congrArg F244 rfl) rfl) rfl).trans (t244 q1)) jl_0 q2 (by decide)).mpr hz))
    obtain ⟨q3, H⟩ := H
    refine ite_J (eq_J (in_J (congrArg Int32.toInt64 rfl) ll_0 ll_2 q3 (by decide) (by decide)) jl_0 R_in (by decide)) (fun hc => ?_) (fun hc => ?_)
    · replace H := H.1 ((eq_J (in_J (congrArg Int32.toInt64 rfl) ll_0 ll_2 q3 (by decide) (by decide)) jl_0 R_in (by decide)).mp hc)
      exact jl_m102
    · replace H := H.2 (fun hz => hc ((eq_J (in_J (congrArg Int32.toInt64 rfl) ll_0 ll_2 q3 (by decide) (by decide)) jl_0 R_in (by decide)).mpr hz))
      obtain ⟨q4, H⟩ := H
      obtain ⟨q5, q6, H⟩ := H
      refine ite_J (eq_J (in_J (congrArg Int32.toInt64 rfl) ll_0 (congrArg Int32.toInt64 (sub_J (rd_J (jf_base _ _) (add_J (mul_J (fld_J (jf_base _ _)) rfl) rfl) q4 (by decide)) jl_1)) q5 (by decide) q6) jl_0 R_in (by decide)) (fun hc => ?_) (fun hc => ?_)
      · replace H := H.1 ((eq_J (in_J (congrArg Int32.toInt64 rfl) ll_0 (congrArg Int32.toInt64 (sub_J (rd_J (jf_base _ _) (add_J (mul_J (fld_J (jf_base _ _)) rfl) rfl) q4 (by decide)) jl_1)) q5 (by decide) q6) jl_0 R_in (by decide)).mp hc)
        exact jl_m1
      · replace H := H.2 (fun hz => hc ((eq_J (in_J (congrArg Int32.toInt64 rfl) ll_0 (congrArg Int32.toInt64 (sub_J (rd_J (jf_base _ _) (add_J (mul_J (fld_J (jf_base _ _)) rfl) rfl) q4 (by decide)) jl_1)) q5 (by decide) q6) jl_0 R_in (by decide)).mpr hz))
        refine ite_J (eq_J rfl jl_0 q3 (by decide)) (fun hc => ?_) (fun hc => ?_)
        · replace H := H.1 ((eq_J rfl jl_0 q3 (by decide)).mp hc)
          obtain ⟨q7, H⟩ := H
          exact (rd_J (jf_base _ _) (add_J (mul_J jl_12 (add_J (mul_J (fld_J (jf_base _ _)) rfl) rfl)) rfl) q7 (by decide))
        · replace H := H.2 (fun hz => hc ((eq_J rfl jl_0 q3 (by decide)).mpr hz))
          refine ite_J (eq_J rfl jl_1 q3 (by decide)) (fun hc => ?_) (fun hc => ?_)
          · replace H := H.1 ((eq_J rfl jl_1 q3 (by decide)).mp hc)
            obtain ⟨q8, H⟩ := H
            exact (rd_J (jf_base _ _) (add_J (mul_J jl_12 (add_J (mul_J (fld_J (jf_base _ _)) rfl) rfl)) rfl) q8 (by decide))
          · replace H := H.2 (fun hz => hc ((eq_J rfl jl_1 q3 (by decide)).mpr hz))
            obtain ⟨q9, H⟩ := H
            exact (rd_J (jf_base _ _) (add_J (mul_J jl_12 (add_J (mul_J (fld_J (jf_base _ _)) rfl) rfl)) rfl) q9 (by decide))
theorem p269 {N : NM} {x1 : Int} {x2 : Int} {x3 : Int} {x4 : Int} (H : Q269 N x1 x2 x3 x4) : P269 (jm N) (J x1) (J x2) (J x3) (J x4) := by
  unfold Q269 at H
  unfold P269
  obtain ⟨q1, H⟩ := H
  obtain ⟨q2, H⟩ := H
  refine ⟨fun hc => ?_, fun hc => ?_⟩
  · replace H := H.1 ((eq_J ((congr (congr (congrArg F244 rfl) rfl) rfl).trans (t244 q1)) jl_0 q2 (by decide)).mp hc)
    trivial
  · replace H := H.2 (fun hz => hc ((eq_J ((congr (congr (congrArg F244 rfl) rfl) rfl).trans (t244 q1)) jl_0 q2 (by decide)).mpr hz))
    obtain ⟨q3, H⟩ := H
    refine ⟨fun hc => ?_, fun hc => ?_⟩
    · replace H := H.1 ((eq_J (in_J (congrArg Int32.toInt64 rfl) ll_0 ll_2 q3 (by decide) (by decide)) jl_0 R_in (by decide)).mp hc)
      trivial
    · replace H := H.2 (fun hz => hc ((eq_J (in_J (congrArg Int32.toInt64 rfl) ll_0 ll_2 q3 (by decide) (by decide)) jl_0 R_in (by decide)).mpr hz))
      obtain ⟨q4, H⟩ := H
      refine ⟨inb_J (add_J (mul_J (fld_J (jf_base _ _)) rfl) rfl) q4 (by decide), ?_⟩
      obtain ⟨q5, q6, H⟩ := H
      refine ⟨fun hc => ?_, fun hc => ?_⟩
      · replace H := H.1 ((eq_J (in_J (congrArg Int32.toInt64 rfl) ll_0 (congrArg Int32.toInt64 (sub_J (rd_J (jf_base _ _) (add_J (mul_J (fld_J (jf_base _ _)) rfl) rfl) q4 (by decide)) jl_1)) q5 (by decide) q6) jl_0 R_in (by decide)).mp hc)
        trivial
      · replace H := H.2 (fun hz => hc ((eq_J (in_J (congrArg Int32.toInt64 rfl) ll_0 (congrArg Int32.toInt64 (sub_J (rd_J (jf_base _ _) (add_J (mul_J (fld_J (jf_base _ _)) rfl) rfl) q4 (by decide)) jl_1)) q5 (by decide) q6) jl_0 R_in (by decide)).mpr hz))
        refine ⟨fun hc => ?_, fun hc => ?_⟩
        · replace H := H.1 ((eq_J rfl jl_0 q3 (by decide)).mp hc)
          obtain ⟨q7, H⟩ := H
          exact inb_J (add_J (mul_J jl_12 (add_J (mul_J (fld_J (jf_base _ _)) rfl) rfl)) rfl) q7 (by decide)
        · replace H := H.2 (fun hz => hc ((eq_J rfl jl_0 q3 (by decide)).mpr hz))
          refine ⟨fun hc => ?_, fun hc => ?_⟩
          · replace H := H.1 ((eq_J rfl jl_1 q3 (by decide)).mp hc)
            obtain ⟨q8, H⟩ := H
            exact inb_J (add_J (mul_J jl_12 (add_J (mul_J (fld_J (jf_base _ _)) rfl) rfl)) rfl) q8 (by decide)
          · replace H := H.2 (fun hz => hc ((eq_J rfl jl_1 q3 (by decide)).mpr hz))
            obtain ⟨q9, H⟩ := H
            exact inb_J (add_J (mul_J jl_12 (add_J (mul_J (fld_J (jf_base _ _)) rfl) rfl)) rfl) q9 (by decide)
theorem sz269 {E : gw_N} {N : NM} {x1 : Int} {x2 : Int} {x3 : Int} {x4 : Int} (H : Q269 N x1 x2 x3 x4) : Rn 269 [.ref 59, .int (J x1), .int (J x2), .int (J x3), .int (J x4)] (hs E (jm N)) (some (.int (J (G269 N x1 x2 x3 x4)))) (hs E (jm N)) := by
  have h := s269 (E := E) (M := jm N) (x1 := J x1) (x2 := J x2) (x3 := J x3) (x4 := J x4) (p269 H)
  rw [t269 H] at h
  exact h
-- 275 GlassWiresModel solders (I)Z
theorem v275_0 {E : gw_N} {N : NM} {res : Option Value × gw_H} {x1 : Int} (H : Ev 3 275 4 [some (.ref 59), some (.int (J x1)), some (.int (J 0)), some (.int (J 0))] [] (hs E (jm N)) res) : Ev 3 275 0 [some (.ref 59), some (.int (J x1)), none, none] [] (hs E (jm N)) res := by
  refine w275_0 ?_
  exact Ev_to (clx (cli rfl (cli jl_0 (cli jl_0 rfl)))) rfl rfl H
theorem v275_4 {E : gw_N} {N : NM} {res : Option Value × gw_H} {x1 : Int} {x2 : Int} {x3 : Int} (H : ((R ((N 59) 4)) ∧ ((R x3) ∧ ((((N 59) 4) ≤ x3 → ((x2 = 0 ∨ x2 = 1) ∧ res = (some (.int (J x2)), hs E (jm N)))) ∧ (¬ ((N 59) 4) ≤ x3 → ((R x2) ∧ ((x2 = 0 → ((0 ≤ x3 ∧ x3 < 30) ∧ ((R ((N 64) x3)) ∧ ((((N 64) x3) = 0 → Ev 3 275 4 [some (.ref 59), some (.int (J x1)), some (.int (J 0)), some (.int (J (x3 + 1)))] [] (hs E (jm N)) res) ∧ (¬ ((N 64) x3) = 0 → ((R ((N 65) x3)) ∧ ((((N 65) x3) = 0 → Ev 3 275 4 [some (.ref 59), some (.int (J x1)), some (.int (J 0)), some (.int (J (x3 + 1)))] [] (hs E (jm N)) res) ∧ (¬ ((N 65) x3) = 0 → (∃ (r1 : Int), Rn 224 [.ref 59, .int (J x3), .int (J x1)] (hs E (jm N)) (some (.int (J r1))) (hs E (jm N)) ∧ ((R r1) ∧ ((r1 = 0 → Ev 3 275 4 [some (.ref 59), some (.int (J x1)), some (.int (J 0)), some (.int (J (x3 + 1)))] [] (hs E (jm N)) res) ∧ (¬ r1 = 0 → Ev 3 275 4 [some (.ref 59), some (.int (J x1)), some (.int (J 1)), some (.int (J (x3 + 1)))] [] (hs E (jm N)) res)))))))))))) ∧ (¬ x2 = 0 → Ev 3 275 4 [some (.ref 59), some (.int (J x1)), some (.int (J 1)), some (.int (J (x3 + 1)))] [] (hs E (jm N)) res)))))))) : Ev 3 275 4 [some (.ref 59), some (.int (J x1)), some (.int (J x2)), some (.int (J x3))] [] (hs E (jm N)) res := by
  refine w275_4 ?_
  obtain ⟨q1, q2, H⟩ := H
  refine ⟨fun hc => ?_, fun hc => ?_⟩
  · replace H := H.1 ((le_J (fld_J (jf_base _ _)) rfl q1 q2).mp hc)
    obtain ⟨q3, H⟩ := H
    refine ⟨bb_J rfl q3, ?_⟩
    exact H.trans (rt_i rfl rfl)
  · replace H := H.2 (fun hz => hc ((le_J (fld_J (jf_base _ _)) rfl q1 q2).mpr hz))
    obtain ⟨q4, H⟩ := H
    refine ⟨fun hc => ?_, fun hc => ?_⟩
    · replace H := H.1 ((eq_J rfl jl_0 q4 (by decide)).mp hc)
      obtain ⟨q5, H⟩ := H
      refine ⟨inb_J rfl q5 (by decide), ?_⟩
      obtain ⟨q6, H⟩ := H
      refine ⟨fun hc => ?_, fun hc => ?_⟩
      · replace H := H.1 ((eq_J (rd_J (jf_base _ _) rfl q5 (by decide)) jl_0 q6 (by decide)).mp hc)
        exact Ev_to (clx (cli rfl (cli jl_0 (cli (add_J rfl jl_1) rfl)))) rfl rfl H
      · replace H := H.2 (fun hz => hc ((eq_J (rd_J (jf_base _ _) rfl q5 (by decide)) jl_0 q6 (by decide)).mpr hz))
        refine ⟨inb_J rfl q5 (by decide), ?_⟩
        obtain ⟨q7, H⟩ := H
        refine ⟨fun hc => ?_, fun hc => ?_⟩
        · replace H := H.1 ((eq_J (rd_J (jf_base _ _) rfl q5 (by decide)) jl_0 q7 (by decide)).mp hc)
          exact Ev_to (clx (cli rfl (cli jl_0 (cli (add_J rfl jl_1) rfl)))) rfl rfl H
        · replace H := H.2 (fun hz => hc ((eq_J (rd_J (jf_base _ _) rfl q5 (by decide)) jl_0 q7 (by decide)).mpr hz))
          obtain ⟨r1, q9, H⟩ := H
          refine ⟨J r1, Rn_to (clx (cai rfl (cai rfl rfl))) rfl rfl q9, ?_⟩
          obtain ⟨q8, H⟩ := H
          refine ⟨fun hc => ?_, fun hc => ?_⟩
          · replace H := H.1 ((eq_J rfl jl_0 q8 (by decide)).mp hc)
            exact Ev_to (clx (cli rfl (cli jl_0 (cli (add_J rfl jl_1) rfl)))) rfl rfl H
          · replace H := H.2 (fun hz => hc ((eq_J rfl jl_0 q8 (by decide)).mpr hz))
            exact Ev_to (clx (cli rfl (cli jl_1 (cli (add_J rfl jl_1) rfl)))) rfl rfl H
    · replace H := H.2 (fun hz => hc ((eq_J rfl jl_0 q4 (by decide)).mpr hz))
      exact Ev_to (clx (cli rfl (cli jl_1 (cli (add_J rfl jl_1) rfl)))) rfl rfl H
-- 280 GlassWiresModel fills (I)I
theorem v280_0 {E : gw_N} {N : NM} {res : Option Value × gw_H} {x1 : Int} (H : ((Q261 N x1) ∧ ((R (G261 N x1)) ∧ (((G261 N x1) = 0 → res = (some (.int (J (-101))), hs E (jm N))) ∧ (¬ (G261 N x1) = 0 → (∃ (r1 : Int), Rn 279 [.ref 59, .int (J x1)] (hs E (jm N)) (some (.int (J r1))) (hs E (jm N)) ∧ res = (some (.int (J r1)), hs E (jm N)))))))) : Ev 3 280 0 [some (.ref 59), some (.int (J x1))] [] (hs E (jm N)) res := by
  refine w280_0 ?_
  obtain ⟨q1, H⟩ := H
  obtain ⟨q2, H⟩ := H
  refine ⟨fun hc => ?_, fun hc => ?_⟩
  · replace H := H.1 ((eq_J ((congr (congrArg F261 rfl) rfl).trans (t261 q1)) jl_0 q2 (by decide)).mp hc)
    exact H.trans (rt_i jl_m101 rfl)
  · replace H := H.2 (fun hz => hc ((eq_J ((congr (congrArg F261 rfl) rfl).trans (t261 q1)) jl_0 q2 (by decide)).mpr hz))
    obtain ⟨r1, q3, H⟩ := H
    refine ⟨J r1, Rn_to (clx (cai rfl rfl)) rfl rfl q3, ?_⟩
    exact H.trans (rt_i rfl rfl)
-- 282 GlassWiresModel plan (I)I
theorem v282_0 {E : gw_N} {N : NM} {res : Option Value × gw_H} {x1 : Int} (H : ((R x1) ∧ (((if 0 ≤ x1 ∧ x1 ≤ 255 then (1 : Int) else 0) = 0 → res = (some (.int (J (-102))), hs E (jm N))) ∧ (¬ (if 0 ≤ x1 ∧ x1 ≤ 255 then (1 : Int) else 0) = 0 → (∃ (N1 : NM), Rn 281 [.ref 59, .int (J x1)] (hs E (jm N)) none (hs E (jm N1)) ∧ res = (some (.int (J ((N1 59) 33))), hs E (jm N1))))))) : Ev 3 282 0 [some (.ref 59), some (.int (J x1))] [] (hs E (jm N)) res := by
  refine w282_0 ?_
  obtain ⟨q1, H⟩ := H
  refine ⟨fun hc => ?_, fun hc => ?_⟩
  · replace H := H.1 ((eq_J (in_J (congrArg Int32.toInt64 rfl) ll_0 ll_255 q1 (by decide) (by decide)) jl_0 R_in (by decide)).mp hc)
    exact H.trans (rt_i jl_m102 rfl)
  · replace H := H.2 (fun hz => hc ((eq_J (in_J (congrArg Int32.toInt64 rfl) ll_0 ll_255 q1 (by decide) (by decide)) jl_0 R_in (by decide)).mpr hz))
    obtain ⟨N1, q2, H⟩ := H
    refine ⟨jm N1, Rn_to (clx (cai rfl rfl)) rfl rfl q2, ?_⟩
    exact H.trans (rt_i (fld_J (jf_base _ _)) rfl)
-- 283 GlassWiresModel heat (II)I
theorem v283_0 {E : gw_N} {N : NM} {res : Option Value × gw_H} {x1 : Int} {x2 : Int} (H : ((R x1) ∧ (((if 0 ≤ x1 ∧ x1 ≤ 255 then (1 : Int) else 0) = 0 → res = (some (.int (J (-102))), hs E (jm N))) ∧ (¬ (if 0 ≤ x1 ∧ x1 ≤ 255 then (1 : Int) else 0) = 0 → (∃ (N1 : NM), Rn 281 [.ref 59, .int (J x1)] (hs E (jm N)) none (hs E (jm N1)) ∧ ((R x2) ∧ ((R (((N1 59) 33) - 1)) ∧ (((if 0 ≤ x2 ∧ x2 ≤ (((N1 59) 33) - 1) then (1 : Int) else 0) = 0 → res = (some (.int (J (-1))), hs E (jm N1))) ∧ (¬ (if 0 ≤ x2 ∧ x2 ≤ (((N1 59) 33) - 1) then (1 : Int) else 0) = 0 → ((0 ≤ ((((N1 59) 33) - 1) - x2) ∧ ((((N1 59) 33) - 1) - x2) < 900) ∧ res = (some (.int (J ((N1 83) ((((N1 59) 33) - 1) - x2)))), hs E (jm N1)))))))))))) : Ev 3 283 0 [some (.ref 59), some (.int (J x1)), some (.int (J x2))] [] (hs E (jm N)) res := by
  refine w283_0 ?_
  obtain ⟨q1, H⟩ := H
  refine ⟨fun hc => ?_, fun hc => ?_⟩
  · replace H := H.1 ((eq_J (in_J (congrArg Int32.toInt64 rfl) ll_0 ll_255 q1 (by decide) (by decide)) jl_0 R_in (by decide)).mp hc)
    exact H.trans (rt_i jl_m102 rfl)
  · replace H := H.2 (fun hz => hc ((eq_J (in_J (congrArg Int32.toInt64 rfl) ll_0 ll_255 q1 (by decide) (by decide)) jl_0 R_in (by decide)).mpr hz))
    obtain ⟨N1, q5, H⟩ := H
    refine ⟨jm N1, Rn_to (clx (cai rfl rfl)) rfl rfl q5, ?_⟩
    obtain ⟨q2, q3, H⟩ := H
    refine ⟨fun hc => ?_, fun hc => ?_⟩
    · replace H := H.1 ((eq_J (in_J (congrArg Int32.toInt64 rfl) ll_0 (congrArg Int32.toInt64 (sub_J (fld_J (jf_base _ _)) jl_1)) q2 (by decide) q3) jl_0 R_in (by decide)).mp hc)
      exact H.trans (rt_i jl_m1 rfl)
    · replace H := H.2 (fun hz => hc ((eq_J (in_J (congrArg Int32.toInt64 rfl) ll_0 (congrArg Int32.toInt64 (sub_J (fld_J (jf_base _ _)) jl_1)) q2 (by decide) q3) jl_0 R_in (by decide)).mpr hz))
      obtain ⟨q4, H⟩ := H
      refine ⟨inb_J (sub_J (sub_J (fld_J (jf_base _ _)) jl_1) rfl) q4 (by decide), ?_⟩
      exact H.trans (rt_i (rd_J (jf_base _ _) (sub_J (sub_J (fld_J (jf_base _ _)) jl_1) rfl) q4 (by decide)) rfl)
-- 284 GlassWiresModel back (II)I
theorem v284_0 {E : gw_N} {N : NM} {res : Option Value × gw_H} {x1 : Int} {x2 : Int} (H : ((Q261 N x1) ∧ ((R (G261 N x1)) ∧ (((G261 N x1) = 0 → res = (some (.int (J (-101))), hs E (jm N))) ∧ (¬ (G261 N x1) = 0 → ((R x2) ∧ (((if 0 ≤ x2 ∧ x2 ≤ 99 then (1 : Int) else 0) = 0 → res = (some (.int (J (-102))), hs E (jm N))) ∧ (¬ (if 0 ≤ x2 ∧ x2 ≤ 99 then (1 : Int) else 0) = 0 → res = (some (.int (J 1)), hs E (jm (upZ N 59 (updZ (updZ (N 59) 34 x1) 35 x2)))))))))))) : Ev 3 284 0 [some (.ref 59), some (.int (J x1)), some (.int (J x2))] [] (hs E (jm N)) res := by
  refine w284_0 ?_
  obtain ⟨q1, H⟩ := H
  obtain ⟨q2, H⟩ := H
  refine ⟨fun hc => ?_, fun hc => ?_⟩
  · replace H := H.1 ((eq_J ((congr (congrArg F261 rfl) rfl).trans (t261 q1)) jl_0 q2 (by decide)).mp hc)
    exact H.trans (rt_i jl_m101 rfl)
  · replace H := H.2 (fun hz => hc ((eq_J ((congr (congrArg F261 rfl) rfl).trans (t261 q1)) jl_0 q2 (by decide)).mpr hz))
    obtain ⟨q3, H⟩ := H
    refine ⟨fun hc => ?_, fun hc => ?_⟩
    · replace H := H.1 ((eq_J (in_J (congrArg Int32.toInt64 rfl) ll_0 ll_99 q3 (by decide) (by decide)) jl_0 R_in (by decide)).mp hc)
      exact H.trans (rt_i jl_m102 rfl)
    · replace H := H.2 (fun hz => hc ((eq_J (in_J (congrArg Int32.toInt64 rfl) ll_0 ll_99 q3 (by decide) (by decide)) jl_0 R_in (by decide)).mpr hz))
      exact H.trans (rt_i jl_1 (jm_up rfl (jf_updk (jf_updk (jf_base _ _) rfl) rfl)))
-- 286 GlassWiresModel pull (I)I
theorem v286_0 {E : gw_N} {N : NM} {res : Option Value × gw_H} {x1 : Int} (H : ((R x1) ∧ ((x1 = 0 → (∃ (r1 : Int), Rn 285 [.ref 59] (hs E (jm N)) (some (.int (J r1))) (hs E (jm N)) ∧ res = (some (.int (J r1)), hs E (jm N)))) ∧ (¬ x1 = 0 → ((x1 = 1 → ((0 ≤ ((N 59) 34) ∧ ((N 59) 34) < 8) ∧ res = (some (.int (J (((G243 N) * ((N 59) 35)) * ((N 75) ((N 59) 34))))), hs E (jm N)))) ∧ (¬ x1 = 1 → res = (some (.int (J (-102))), hs E (jm N)))))))) : Ev 3 286 0 [some (.ref 59), some (.int (J x1))] [] (hs E (jm N)) res := by
  refine w286_0 ?_
  obtain ⟨q1, H⟩ := H
  refine ⟨fun hc => ?_, fun hc => ?_⟩
  · replace H := H.1 ((eq_J rfl jl_0 q1 (by decide)).mp hc)
    obtain ⟨r1, q2, H⟩ := H
    refine ⟨J r1, Rn_to (clx rfl) rfl rfl q2, ?_⟩
    exact H.trans (rt_i rfl rfl)
  · replace H := H.2 (fun hz => hc ((eq_J rfl jl_0 q1 (by decide)).mpr hz))
    refine ⟨fun hc => ?_, fun hc => ?_⟩
    · replace H := H.1 ((eq_J rfl jl_1 q1 (by decide)).mp hc)
      obtain ⟨q3, H⟩ := H
      refine ⟨inb_J (fld_J (jf_base _ _)) q3 (by decide), ?_⟩
      exact H.trans (rt_i (mul_J (mul_J ((congrArg F243 rfl).trans (t243)) (fld_J (jf_base _ _))) (rd_J (jf_base _ _) (fld_J (jf_base _ _)) q3 (by decide))) rfl)
    · replace H := H.2 (fun hz => hc ((eq_J rfl jl_1 q1 (by decide)).mpr hz))
      exact H.trans (rt_i jl_m102 rfl)
-- 287 GlassWiresModel bowOf (II)I
theorem v287_0 {E : gw_N} {N : NM} {res : Option Value × gw_H} {x1 : Int} {x2 : Int} (H : (∃ (r1 : Int), Rn 285 [.ref 59] (hs E (jm N)) (some (.int (J r1))) (hs E (jm N)) ∧ ((0 ≤ x1 ∧ x1 < 8) ∧ ((R (G243 N)) ∧ ((0 < (G243 N)) ∧ ((R (r1 - (((G243 N) * x2) * ((N 75) x1)))) ∧ res = (some (.int (J (Int.tdiv (r1 - (((G243 N) * x2) * ((N 75) x1))) (G243 N)))), hs E (jm N)))))))) : Ev 3 287 0 [some (.ref 59), some (.int (J x1)), some (.int (J x2))] [] (hs E (jm N)) res := by
  refine w287_0 ?_
  obtain ⟨r1, q5, H⟩ := H
  refine ⟨J r1, Rn_to (clx rfl) rfl rfl q5, ?_⟩
  obtain ⟨q1, H⟩ := H
  refine ⟨inb_J rfl q1 (by decide), ?_⟩
  obtain ⟨q2, q3, H⟩ := H
  refine ⟨nz_J ((congrArg F243 rfl).trans (t243)) q2 q3, ?_⟩
  obtain ⟨q4, H⟩ := H
  exact H.trans (rt_i (div_J (sub_J rfl (mul_J (mul_J ((congrArg F243 rfl).trans (t243)) rfl) (rd_J (jf_base _ _) rfl q1 (by decide)))) ((congrArg F243 rfl).trans (t243)) q4 q2 q3) rfl)
-- 298 GlassWiresModel harmsOf (II)I
theorem v298_0 {E : gw_N} {N : NM} {res : Option Value × gw_H} {x1 : Int} {x2 : Int} (H : Ev 3 298 5 [some (.ref 59), some (.int (J x1)), some (.int (J x2)), some (.int (J 0)), some (.int (J 0))] [] (hs E (jm N)) res) : Ev 3 298 0 [some (.ref 59), some (.int (J x1)), some (.int (J x2)), none, none] [] (hs E (jm N)) res := by
  refine w298_0 ?_
  exact Ev_to (clx (cli rfl (cli rfl (cli jl_0 (cli jl_0 rfl))))) rfl rfl H
theorem v298_5 {E : gw_N} {N : NM} {res : Option Value × gw_H} {x1 : Int} {x2 : Int} {x3 : Int} {x4 : Int} (H : ((R (G243 N)) ∧ ((R x4) ∧ (((G243 N) ≤ x4 → res = (some (.int (J x3)), hs E (jm N))) ∧ (¬ (G243 N) ≤ x4 → ((0 ≤ x4 ∧ x4 < 64) ∧ ((R ((N 69) x4)) ∧ ((((N 69) x4) = x4 → ((R x1) ∧ ((x4 = x1 → Ev 3 298 5 [some (.ref 59), some (.int (J x1)), some (.int (J x2)), some (.int (J (x3 + 0))), some (.int (J (x4 + 1)))] [] (hs E (jm N)) res) ∧ (¬ x4 = x1 → (∃ (r1 : Int), Rn 297 [.ref 59, .int (J x4), .int (J x2)] (hs E (jm N)) (some (.int (J r1))) (hs E (jm N)) ∧ ((R r1) ∧ ((r1 = 0 → Ev 3 298 5 [some (.ref 59), some (.int (J x1)), some (.int (J x2)), some (.int (J (x3 + 0))), some (.int (J (x4 + 1)))] [] (hs E (jm N)) res) ∧ (¬ r1 = 0 → Ev 3 298 5 [some (.ref 59), some (.int (J x1)), some (.int (J x2)), some (.int (J (x3 + 1))), some (.int (J (x4 + 1)))] [] (hs E (jm N)) res)))))))) ∧ (¬ ((N 69) x4) = x4 → Ev 3 298 5 [some (.ref 59), some (.int (J x1)), some (.int (J x2)), some (.int (J (x3 + 0))), some (.int (J (x4 + 1)))] [] (hs E (jm N)) res))))))))) : Ev 3 298 5 [some (.ref 59), some (.int (J x1)), some (.int (J x2)), some (.int (J x3)), some (.int (J x4))] [] (hs E (jm N)) res := by
  refine w298_5 ?_
  obtain ⟨q1, q2, H⟩ := H
  refine ⟨fun hc => ?_, fun hc => ?_⟩
  · replace H := H.1 ((le_J ((congrArg F243 rfl).trans (t243)) rfl q1 q2).mp hc)
    exact H.trans (rt_i rfl rfl)
  · replace H := H.2 (fun hz => hc ((le_J ((congrArg F243 rfl).trans (t243)) rfl q1 q2).mpr hz))
    obtain ⟨q3, H⟩ := H
    refine ⟨inb_J rfl q3 (by decide), ?_⟩
    obtain ⟨q4, H⟩ := H
    refine ⟨fun hc => ?_, fun hc => ?_⟩
    · replace H := H.1 ((eq_J (rd_J (jf_base _ _) rfl q3 (by decide)) rfl q4 q2).mp hc)
      obtain ⟨q5, H⟩ := H
      refine ⟨fun hc => ?_, fun hc => ?_⟩
      · replace H := H.1 ((eq_J rfl rfl q2 q5).mp hc)
        exact Ev_to (clx (cli rfl (cli rfl (cli (add_J rfl jl_0) (cli (add_J rfl jl_1) rfl))))) rfl rfl H
      · replace H := H.2 (fun hz => hc ((eq_J rfl rfl q2 q5).mpr hz))
        obtain ⟨r1, q7, H⟩ := H
        refine ⟨J r1, Rn_to (clx (cai rfl (cai rfl rfl))) rfl rfl q7, ?_⟩
        obtain ⟨q6, H⟩ := H
        refine ⟨fun hc => ?_, fun hc => ?_⟩
        · replace H := H.1 ((eq_J rfl jl_0 q6 (by decide)).mp hc)
          exact Ev_to (clx (cli rfl (cli rfl (cli (add_J rfl jl_0) (cli (add_J rfl jl_1) rfl))))) rfl rfl H
        · replace H := H.2 (fun hz => hc ((eq_J rfl jl_0 q6 (by decide)).mpr hz))
          exact Ev_to (clx (cli rfl (cli rfl (cli (add_J rfl jl_1) (cli (add_J rfl jl_1) rfl))))) rfl rfl H
    · replace H := H.2 (fun hz => hc ((eq_J (rd_J (jf_base _ _) rfl q3 (by decide)) rfl q4 q2).mpr hz))
      exact Ev_to (clx (cli rfl (cli rfl (cli (add_J rfl jl_0) (cli (add_J rfl jl_1) rfl))))) rfl rfl H
-- 2 GlassWires$Cells spread (I)I
theorem v2_0 {E : gw_N} {N : NM} {res : Option Value × gw_H} {x1 : Int} (H : ((0 ≤ x1 ∧ x1 < 64) ∧ Ev 4 2 18 [some (.ref 32), some (.int (J x1)), some (.int (J 1)), some (.int (J 0)), none, none] [] (hs E (jm (upZ (upZ N 33 (updZ (N 33) x1 x1)) 35 (updZ (N 35) 0 x1)))) res)) : Ev 4 2 0 [some (.ref 32), some (.int (J x1)), none, none, none, none] [] (hs E (jm N)) res := by
  refine w2_0 ?_
  obtain ⟨q1, H⟩ := H
  refine ⟨inb_J rfl q1 (by decide), ?_⟩
  refine ⟨inb_J jl_0 (by decide : (0 : Int) ≤ 0 ∧ (0 : Int) < 64) (by decide), ?_⟩
  exact Ev_to (clx (cli rfl (cli jl_1 (cli jl_0 (clx (clx rfl)))))) rfl (jm_up (jm_up rfl (jf_upd (jf_base _ _) rfl q1 (by decide) rfl)) (jf_upd (jf_base _ _) jl_0 (by decide : (0 : Int) ≤ 0 ∧ (0 : Int) < 64) (by decide) rfl)) H
theorem v2_18 {E : gw_N} {N : NM} {res : Option Value × gw_H} {x1 : Int} {x2 : Int} {x3 : Int} (H : ((R x2) ∧ ((R x3) ∧ ((x2 ≤ x3 → res = (some (.int (J x2)), hs E (jm N))) ∧ (¬ x2 ≤ x3 → (((64 : Int) ≤ x3 → res = (some (.int (J x2)), hs E (jm N))) ∧ (¬ (64 : Int) ≤ x3 → Ev 4 2 32 [some (.ref 32), some (.int (J x1)), some (.int (J x2)), some (.int (J x3)), some (.int (J 0)), none] [] (hs E (jm N)) res))))))) : Ev 4 2 18 [some (.ref 32), some (.int (J x1)), some (.int (J x2)), some (.int (J x3)), none, none] [] (hs E (jm N)) res := by
  refine w2_18 ?_
  obtain ⟨q1, q2, H⟩ := H
  refine ⟨fun hc => ?_, fun hc => ?_⟩
  · replace H := H.1 ((le_J rfl rfl q1 q2).mp hc)
    exact H.trans (rt_i rfl rfl)
  · replace H := H.2 (fun hz => hc ((le_J rfl rfl q1 q2).mpr hz))
    refine ⟨fun hc => ?_, fun hc => ?_⟩
    · replace H := H.1 ((le_J jl_64 rfl (by decide) q2).mp hc)
      exact H.trans (rt_i rfl rfl)
    · replace H := H.2 (fun hz => hc ((le_J jl_64 rfl (by decide) q2).mpr hz))
      exact Ev_to (clx (cli rfl (cli rfl (cli rfl (cli jl_0 (clx rfl)))))) rfl rfl H
theorem v2_32 {E : gw_N} {N : NM} {res : Option Value × gw_H} {x1 : Int} {x2 : Int} {x3 : Int} {x4 : Int} (H : ((R x4) ∧ (((4 : Int) ≤ x4 → Ev 4 2 18 [some (.ref 32), some (.int (J x1)), some (.int (J x2)), some (.int (J (x3 + 1))), none, none] [] (hs E (jm N)) res) ∧ (¬ (4 : Int) ≤ x4 → ((0 ≤ x3 ∧ x3 < 64) ∧ ((Q46 N ((N 35) x3) x4) ∧ ((R (G46 N ((N 35) x3) x4)) ∧ (((G46 N ((N 35) x3) x4) = (-1) → Ev 4 2 32 [some (.ref 32), some (.int (J x1)), some (.int (J x2)), some (.int (J x3)), some (.int (J (x4 + 1))), none] [] (hs E (jm N)) res) ∧ (¬ (G46 N ((N 35) x3) x4) = (-1) → ((0 ≤ (G46 N ((N 35) x3) x4) ∧ (G46 N ((N 35) x3) x4) < 64) ∧ ((R ((N 33) (G46 N ((N 35) x3) x4))) ∧ ((((N 33) (G46 N ((N 35) x3) x4)) = (-1) → ((R x2) ∧ (((64 : Int) ≤ x2 → Ev 4 2 32 [some (.ref 32), some (.int (J x1)), some (.int (J x2)), some (.int (J x3)), some (.int (J (x4 + 1))), none] [] (hs E (jm N)) res) ∧ (¬ (64 : Int) ≤ x2 → ((Q47 N ((N 35) x3) x4) ∧ ((Q67 N (G47 N ((N 35) x3) x4)) ∧ ((R (G67 N (G47 N ((N 35) x3) x4))) ∧ (((G67 N (G47 N ((N 35) x3) x4)) = 0 → Ev 4 2 32 [some (.ref 32), some (.int (J x1)), some (.int (J x2)), some (.int (J x3)), some (.int (J (x4 + 1))), none] [] (hs E (jm N)) res) ∧ (¬ (G67 N (G47 N ((N 35) x3) x4)) = 0 → ((0 ≤ x2 ∧ x2 < 64) ∧ Ev 4 2 32 [some (.ref 32), some (.int (J x1)), some (.int (J (x2 + 1))), some (.int (J x3)), some (.int (J (x4 + 1))), none] [] (hs E (jm (upZ (upZ N 33 (updZ (N 33) (G46 N ((N 35) x3) x4) x1)) 35 (updZ (N 35) x2 (G46 N ((N 35) x3) x4))))) res)))))))))) ∧ (¬ ((N 33) (G46 N ((N 35) x3) x4)) = (-1) → Ev 4 2 32 [some (.ref 32), some (.int (J x1)), some (.int (J x2)), some (.int (J x3)), some (.int (J (x4 + 1))), none] [] (hs E (jm N)) res))))))))))))) : Ev 4 2 32 [some (.ref 32), some (.int (J x1)), some (.int (J x2)), some (.int (J x3)), some (.int (J x4)), none] [] (hs E (jm N)) res := by
  refine w2_32 ?_
  obtain ⟨q1, H⟩ := H
  refine ⟨fun hc => ?_, fun hc => ?_⟩
  · replace H := H.1 ((le_J jl_4 rfl (by decide) q1).mp hc)
    exact Ev_to (clx (cli rfl (cli rfl (cli (add_J rfl jl_1) (clx (clx rfl)))))) rfl rfl H
  · replace H := H.2 (fun hz => hc ((le_J jl_4 rfl (by decide) q1).mpr hz))
    obtain ⟨q2, H⟩ := H
    refine ⟨inb_J rfl q2 (by decide), ?_⟩
    obtain ⟨q3, H⟩ := H
    refine ⟨Eq.mpr (congr (congr (congrArg P46 rfl) (rd_J (jf_base _ _) rfl q2 (by decide))) rfl) (p46 q3), ?_⟩
    obtain ⟨q4, H⟩ := H
    refine ⟨fun hc => ?_, fun hc => ?_⟩
    · replace H := H.1 ((eq_J ((congr (congr (congrArg F46 rfl) (rd_J (jf_base _ _) rfl q2 (by decide))) rfl).trans (t46 q3)) jl_m1 q4 (by decide)).mp hc)
      exact Ev_to (clx (cli rfl (cli rfl (cli rfl (cli (add_J rfl jl_1) (clx rfl)))))) rfl rfl H
    · replace H := H.2 (fun hz => hc ((eq_J ((congr (congr (congrArg F46 rfl) (rd_J (jf_base _ _) rfl q2 (by decide))) rfl).trans (t46 q3)) jl_m1 q4 (by decide)).mpr hz))
      obtain ⟨q5, H⟩ := H
      refine ⟨inb_J ((congr (congr (congrArg F46 rfl) (rd_J (jf_base _ _) rfl q2 (by decide))) rfl).trans (t46 q3)) q5 (by decide), ?_⟩
      obtain ⟨q6, H⟩ := H
      refine ⟨fun hc => ?_, fun hc => ?_⟩
      · replace H := H.1 ((eq_J (rd_J (jf_base _ _) ((congr (congr (congrArg F46 rfl) (rd_J (jf_base _ _) rfl q2 (by decide))) rfl).trans (t46 q3)) q5 (by decide)) jl_m1 q6 (by decide)).mp hc)
        obtain ⟨q7, H⟩ := H
        refine ⟨fun hc => ?_, fun hc => ?_⟩
        · replace H := H.1 ((le_J jl_64 rfl (by decide) q7).mp hc)
          exact Ev_to (clx (cli rfl (cli rfl (cli rfl (cli (add_J rfl jl_1) (clx rfl)))))) rfl rfl H
        · replace H := H.2 (fun hz => hc ((le_J jl_64 rfl (by decide) q7).mpr hz))
          refine ⟨inb_J rfl q2 (by decide), ?_⟩
          obtain ⟨q8, H⟩ := H
          refine ⟨Eq.mpr (congr (congr (congrArg P47 rfl) (rd_J (jf_base _ _) rfl q2 (by decide))) rfl) (p47 q8), ?_⟩
          obtain ⟨q9, H⟩ := H
          refine ⟨Eq.mpr (congr (congrArg P67 rfl) ((congr (congr (congrArg F47 rfl) (rd_J (jf_base _ _) rfl q2 (by decide))) rfl).trans (t47 q8))) (p67 q9), ?_⟩
          obtain ⟨q10, H⟩ := H
          refine ⟨fun hc => ?_, fun hc => ?_⟩
          · replace H := H.1 ((eq_J ((congr (congrArg F67 rfl) ((congr (congr (congrArg F47 rfl) (rd_J (jf_base _ _) rfl q2 (by decide))) rfl).trans (t47 q8))).trans (t67 q9)) jl_0 q10 (by decide)).mp hc)
            exact Ev_to (clx (cli rfl (cli rfl (cli rfl (cli (add_J rfl jl_1) (clx rfl)))))) rfl rfl H
          · replace H := H.2 (fun hz => hc ((eq_J ((congr (congrArg F67 rfl) ((congr (congr (congrArg F47 rfl) (rd_J (jf_base _ _) rfl q2 (by decide))) rfl).trans (t47 q8))).trans (t67 q9)) jl_0 q10 (by decide)).mpr hz))
            refine ⟨inb_J ((congr (congr (congrArg F46 rfl) (rd_J (jf_base _ _) rfl q2 (by decide))) rfl).trans (t46 q3)) q5 (by decide), ?_⟩
            obtain ⟨q11, H⟩ := H
            refine ⟨inb_J rfl q11 (by decide), ?_⟩
            exact Ev_to (clx (cli rfl (cli (add_J rfl jl_1) (cli rfl (cli (add_J rfl jl_1) (clx rfl)))))) rfl (jm_up (jm_up rfl (jf_upd (jf_base _ _) ((congr (congr (congrArg F46 rfl) (rd_J (jf_base _ _) rfl q2 (by decide))) rfl).trans (t46 q3)) q5 (by decide) rfl)) (jf_upd (jf_base _ _) rfl q11 (by decide) ((congr (congr (congrArg F46 rfl) (rd_J (jf_base _ _) rfl q2 (by decide))) rfl).trans (t46 q3)))) H
      · replace H := H.2 (fun hz => hc ((eq_J (rd_J (jf_base _ _) ((congr (congr (congrArg F46 rfl) (rd_J (jf_base _ _) rfl q2 (by decide))) rfl).trans (t46 q3)) q5 (by decide)) jl_m1 q6 (by decide)).mpr hz))
        exact Ev_to (clx (cli rfl (cli rfl (cli rfl (cli (add_J rfl jl_1) (clx rfl)))))) rfl rfl H
-- 23 GlassWires$Glass canRunOver (I)Z
theorem v23_0 {E : gw_N} {N : NM} {res : Option Value × gw_H} {x1 : Int} (H : Ev 4 23 2 [some (.ref 44), some (.int (J x1)), some (.int (J 0)), none] [] (hs E (jm N)) res) : Ev 4 23 0 [some (.ref 44), some (.int (J x1)), none, none] [] (hs E (jm N)) res := by
  refine w23_0 ?_
  exact Ev_to (clx (cli rfl (cli jl_0 (clx rfl)))) rfl rfl H
theorem v23_2 {E : gw_N} {N : NM} {res : Option Value × gw_H} {x1 : Int} {x2 : Int} (H : ((R x2) ∧ (((4 : Int) ≤ x2 → res = (some (.int (J 0)), hs E (jm N))) ∧ (¬ (4 : Int) ≤ x2 → ((Q46 N x1 x2) ∧ ((R (G46 N x1 x2)) ∧ (((G46 N x1 x2) = (-1) → Ev 4 23 2 [some (.ref 44), some (.int (J x1)), some (.int (J (x2 + 1))), none] [] (hs E (jm N)) res) ∧ (¬ (G46 N x1 x2) = (-1) → ((0 ≤ (G46 N x1 x2) ∧ (G46 N x1 x2) < 64) ∧ ((Q103 N) ∧ ((R (G103 N)) ∧ ((R ((N 49) (G46 N x1 x2))) ∧ (((G103 N) ≤ ((N 49) (G46 N x1 x2)) → Ev 4 23 2 [some (.ref 44), some (.int (J x1)), some (.int (J (x2 + 1))), none] [] (hs E (jm N)) res) ∧ (¬ (G103 N) ≤ ((N 49) (G46 N x1 x2)) → ((Q47 N x1 x2) ∧ ((Q67 N (G47 N x1 x2)) ∧ ((R (G67 N (G47 N x1 x2))) ∧ (((G67 N (G47 N x1 x2)) = 0 → res = (some (.int (J 1)), hs E (jm N))) ∧ (¬ (G67 N (G47 N x1 x2)) = 0 → Ev 4 23 2 [some (.ref 44), some (.int (J x1)), some (.int (J (x2 + 1))), none] [] (hs E (jm N)) res))))))))))))))))))) : Ev 4 23 2 [some (.ref 44), some (.int (J x1)), some (.int (J x2)), none] [] (hs E (jm N)) res := by
  refine w23_2 ?_
  obtain ⟨q1, H⟩ := H
  refine ⟨fun hc => ?_, fun hc => ?_⟩
  · replace H := H.1 ((le_J jl_4 rfl (by decide) q1).mp hc)
    exact H.trans (rt_i jl_0 rfl)
  · replace H := H.2 (fun hz => hc ((le_J jl_4 rfl (by decide) q1).mpr hz))
    obtain ⟨q2, H⟩ := H
    refine ⟨Eq.mpr (congr (congr (congrArg P46 rfl) rfl) rfl) (p46 q2), ?_⟩
    obtain ⟨q3, H⟩ := H
    refine ⟨fun hc => ?_, fun hc => ?_⟩
    · replace H := H.1 ((eq_J ((congr (congr (congrArg F46 rfl) rfl) rfl).trans (t46 q2)) jl_m1 q3 (by decide)).mp hc)
      exact Ev_to (clx (cli rfl (cli (add_J rfl jl_1) (clx rfl)))) rfl rfl H
    · replace H := H.2 (fun hz => hc ((eq_J ((congr (congr (congrArg F46 rfl) rfl) rfl).trans (t46 q2)) jl_m1 q3 (by decide)).mpr hz))
      obtain ⟨q4, H⟩ := H
      refine ⟨inb_J ((congr (congr (congrArg F46 rfl) rfl) rfl).trans (t46 q2)) q4 (by decide), ?_⟩
      obtain ⟨q5, H⟩ := H
      refine ⟨Eq.mpr (congrArg P103 rfl) (p103 q5), ?_⟩
      obtain ⟨q6, q7, H⟩ := H
      refine ⟨fun hc => ?_, fun hc => ?_⟩
      · replace H := H.1 ((le_J ((congrArg F103 rfl).trans (t103 q5)) (rd_J (jf_base _ _) ((congr (congr (congrArg F46 rfl) rfl) rfl).trans (t46 q2)) q4 (by decide)) q6 q7).mp hc)
        exact Ev_to (clx (cli rfl (cli (add_J rfl jl_1) (clx rfl)))) rfl rfl H
      · replace H := H.2 (fun hz => hc ((le_J ((congrArg F103 rfl).trans (t103 q5)) (rd_J (jf_base _ _) ((congr (congr (congrArg F46 rfl) rfl) rfl).trans (t46 q2)) q4 (by decide)) q6 q7).mpr hz))
        obtain ⟨q8, H⟩ := H
        refine ⟨Eq.mpr (congr (congr (congrArg P47 rfl) rfl) rfl) (p47 q8), ?_⟩
        obtain ⟨q9, H⟩ := H
        refine ⟨Eq.mpr (congr (congrArg P67 rfl) ((congr (congr (congrArg F47 rfl) rfl) rfl).trans (t47 q8))) (p67 q9), ?_⟩
        obtain ⟨q10, H⟩ := H
        refine ⟨fun hc => ?_, fun hc => ?_⟩
        · replace H := H.1 ((eq_J ((congr (congrArg F67 rfl) ((congr (congr (congrArg F47 rfl) rfl) rfl).trans (t47 q8))).trans (t67 q9)) jl_0 q10 (by decide)).mp hc)
          exact H.trans (rt_i jl_1 rfl)
        · replace H := H.2 (fun hz => hc ((eq_J ((congr (congrArg F67 rfl) ((congr (congr (congrArg F47 rfl) rfl) rfl).trans (t47 q8))).trans (t67 q9)) jl_0 q10 (by decide)).mpr hz))
          exact Ev_to (clx (cli rfl (cli (add_J rfl jl_1) (clx rfl)))) rfl rfl H
-- 29 GlassWires$Glass bleeds (II)Z
theorem v29_0 {E : gw_N} {N : NM} {res : Option Value × gw_H} {x1 : Int} {x2 : Int} (H : ((Q46 N x1 x2) ∧ ((R (G46 N x1 x2)) ∧ (((G46 N x1 x2) = (-1) → res = (some (.int (J 0)), hs E (jm N))) ∧ (¬ (G46 N x1 x2) = (-1) → ((Q15 N x1) ∧ ((R (G15 N x1)) ∧ (((G15 N x1) = (-1) → res = (some (.int (J 0)), hs E (jm N))) ∧ (¬ (G15 N x1) = (-1) → ((Q15 N (G46 N x1 x2)) ∧ ((R (G15 N (G46 N x1 x2))) ∧ (((G15 N (G46 N x1 x2)) = (-1) → res = (some (.int (J 0)), hs E (jm N))) ∧ (¬ (G15 N (G46 N x1 x2)) = (-1) → ((0 ≤ (G15 N x1) ∧ (G15 N x1) < 768) ∧ ((0 ≤ (G15 N (G46 N x1 x2)) ∧ (G15 N (G46 N x1 x2)) < 768) ∧ ((Q106 N ((N 46) (G15 N x1)) ((N 46) (G15 N (G46 N x1 x2)))) ∧ ((R (G106 N ((N 46) (G15 N x1)) ((N 46) (G15 N (G46 N x1 x2))))) ∧ (((G106 N ((N 46) (G15 N x1)) ((N 46) (G15 N (G46 N x1 x2)))) = 0 → res = (some (.int (J 0)), hs E (jm N))) ∧ (¬ (G106 N ((N 46) (G15 N x1)) ((N 46) (G15 N (G46 N x1 x2)))) = 0 → ((Q47 N x1 x2) ∧ ((Q68 N (G47 N x1 x2)) ∧ ((R (G68 N (G47 N x1 x2))) ∧ (((G68 N (G47 N x1 x2)) = 0 → res = (some (.int (J 1)), hs E (jm N))) ∧ (¬ (G68 N (G47 N x1 x2)) = 0 → res = (some (.int (J 0)), hs E (jm N)))))))))))))))))))))))))) : Ev 4 29 0 [some (.ref 44), some (.int (J x1)), some (.int (J x2)), none] [] (hs E (jm N)) res := by
  refine w29_0 ?_
  obtain ⟨q1, H⟩ := H
  refine ⟨Eq.mpr (congr (congr (congrArg P46 rfl) rfl) rfl) (p46 q1), ?_⟩
  obtain ⟨q2, H⟩ := H
  refine ⟨fun hc => ?_, fun hc => ?_⟩
  · replace H := H.1 ((eq_J ((congr (congr (congrArg F46 rfl) rfl) rfl).trans (t46 q1)) jl_m1 q2 (by decide)).mp hc)
    exact H.trans (rt_i jl_0 rfl)
  · replace H := H.2 (fun hz => hc ((eq_J ((congr (congr (congrArg F46 rfl) rfl) rfl).trans (t46 q1)) jl_m1 q2 (by decide)).mpr hz))
    obtain ⟨q3, H⟩ := H
    refine ⟨Eq.mpr (congr (congrArg P15 rfl) rfl) (p15 q3), ?_⟩
    obtain ⟨q4, H⟩ := H
    refine ⟨fun hc => ?_, fun hc => ?_⟩
    · replace H := H.1 ((eq_J ((congr (congrArg F15 rfl) rfl).trans (t15 q3)) jl_m1 q4 (by decide)).mp hc)
      exact H.trans (rt_i jl_0 rfl)
    · replace H := H.2 (fun hz => hc ((eq_J ((congr (congrArg F15 rfl) rfl).trans (t15 q3)) jl_m1 q4 (by decide)).mpr hz))
      obtain ⟨q5, H⟩ := H
      refine ⟨Eq.mpr (congr (congrArg P15 rfl) ((congr (congr (congrArg F46 rfl) rfl) rfl).trans (t46 q1))) (p15 q5), ?_⟩
      obtain ⟨q6, H⟩ := H
      refine ⟨fun hc => ?_, fun hc => ?_⟩
      · replace H := H.1 ((eq_J ((congr (congrArg F15 rfl) ((congr (congr (congrArg F46 rfl) rfl) rfl).trans (t46 q1))).trans (t15 q5)) jl_m1 q6 (by decide)).mp hc)
        exact H.trans (rt_i jl_0 rfl)
      · replace H := H.2 (fun hz => hc ((eq_J ((congr (congrArg F15 rfl) ((congr (congr (congrArg F46 rfl) rfl) rfl).trans (t46 q1))).trans (t15 q5)) jl_m1 q6 (by decide)).mpr hz))
        refine ⟨Eq.mpr (congr (congrArg P15 rfl) rfl) (p15 q3), ?_⟩
        obtain ⟨q7, H⟩ := H
        refine ⟨inb_J ((congr (congrArg F15 rfl) rfl).trans (t15 q3)) q7 (by decide), ?_⟩
        refine ⟨Eq.mpr (congr (congrArg P15 rfl) ((congr (congr (congrArg F46 rfl) rfl) rfl).trans (t46 q1))) (p15 q5), ?_⟩
        obtain ⟨q8, H⟩ := H
        refine ⟨inb_J ((congr (congrArg F15 rfl) ((congr (congr (congrArg F46 rfl) rfl) rfl).trans (t46 q1))).trans (t15 q5)) q8 (by decide), ?_⟩
        obtain ⟨q9, H⟩ := H
        refine ⟨Eq.mpr (congr (congr (congrArg P106 rfl) (rd_J (jf_base _ _) ((congr (congrArg F15 rfl) rfl).trans (t15 q3)) q7 (by decide))) (rd_J (jf_base _ _) ((congr (congrArg F15 rfl) ((congr (congr (congrArg F46 rfl) rfl) rfl).trans (t46 q1))).trans (t15 q5)) q8 (by decide))) (p106 q9), ?_⟩
        obtain ⟨q10, H⟩ := H
        refine ⟨fun hc => ?_, fun hc => ?_⟩
        · replace H := H.1 ((eq_J ((congr (congr (congrArg F106 rfl) (rd_J (jf_base _ _) ((congr (congrArg F15 rfl) rfl).trans (t15 q3)) q7 (by decide))) (rd_J (jf_base _ _) ((congr (congrArg F15 rfl) ((congr (congr (congrArg F46 rfl) rfl) rfl).trans (t46 q1))).trans (t15 q5)) q8 (by decide))).trans (t106 q9)) jl_0 q10 (by decide)).mp hc)
          exact H.trans (rt_i jl_0 rfl)
        · replace H := H.2 (fun hz => hc ((eq_J ((congr (congr (congrArg F106 rfl) (rd_J (jf_base _ _) ((congr (congrArg F15 rfl) rfl).trans (t15 q3)) q7 (by decide))) (rd_J (jf_base _ _) ((congr (congrArg F15 rfl) ((congr (congr (congrArg F46 rfl) rfl) rfl).trans (t46 q1))).trans (t15 q5)) q8 (by decide))).trans (t106 q9)) jl_0 q10 (by decide)).mpr hz))
          obtain ⟨q11, H⟩ := H
          refine ⟨Eq.mpr (congr (congr (congrArg P47 rfl) rfl) rfl) (p47 q11), ?_⟩
          obtain ⟨q12, H⟩ := H
          refine ⟨Eq.mpr (congr (congrArg P68 rfl) ((congr (congr (congrArg F47 rfl) rfl) rfl).trans (t47 q11))) (p68 q12), ?_⟩
          obtain ⟨q13, H⟩ := H
          refine ⟨fun hc => ?_, fun hc => ?_⟩
          · replace H := H.1 ((eq_J ((congr (congrArg F68 rfl) ((congr (congr (congrArg F47 rfl) rfl) rfl).trans (t47 q11))).trans (t68 q12)) jl_0 q13 (by decide)).mp hc)
            exact H.trans (rt_i jl_1 rfl)
          · replace H := H.2 (fun hz => hc ((eq_J ((congr (congrArg F68 rfl) ((congr (congr (congrArg F47 rfl) rfl) rfl).trans (t47 q11))).trans (t68 q12)) jl_0 q13 (by decide)).mpr hz))
            exact H.trans (rt_i jl_0 rfl)
def G29 (N : NM) (x1 : Int) (x2 : Int) : Int := (if (G46 N x1 x2) = (-1) then 0 else (if (G15 N x1) = (-1) then 0 else (if (G15 N (G46 N x1 x2)) = (-1) then 0 else (if (G106 N ((N 46) (G15 N x1)) ((N 46) (G15 N (G46 N x1 x2)))) = 0 then 0 else (if (G68 N (G47 N x1 x2)) = 0 then 1 else 0)))))
def Q29 (N : NM) (x1 : Int) (x2 : Int) : Prop := ((Q46 N x1 x2) ∧ ((R (G46 N x1 x2)) ∧ (((G46 N x1 x2) = (-1) → True) ∧ (¬ (G46 N x1 x2) = (-1) → ((Q15 N x1) ∧ ((R (G15 N x1)) ∧ (((G15 N x1) = (-1) → True) ∧ (¬ (G15 N x1) = (-1) → ((Q15 N (G46 N x1 x2)) ∧ ((R (G15 N (G46 N x1 x2))) ∧ (((G15 N (G46 N x1 x2)) = (-1) → True) ∧ (¬ (G15 N (G46 N x1 x2)) = (-1) → ((0 ≤ (G15 N x1) ∧ (G15 N x1) < 768) ∧ ((0 ≤ (G15 N (G46 N x1 x2)) ∧ (G15 N (G46 N x1 x2)) < 768) ∧ ((Q106 N ((N 46) (G15 N x1)) ((N 46) (G15 N (G46 N x1 x2)))) ∧ ((R (G106 N ((N 46) (G15 N x1)) ((N 46) (G15 N (G46 N x1 x2))))) ∧ (((G106 N ((N 46) (G15 N x1)) ((N 46) (G15 N (G46 N x1 x2)))) = 0 → True) ∧ (¬ (G106 N ((N 46) (G15 N x1)) ((N 46) (G15 N (G46 N x1 x2)))) = 0 → ((Q47 N x1 x2) ∧ ((Q68 N (G47 N x1 x2)) ∧ ((R (G68 N (G47 N x1 x2))) ∧ (((G68 N (G47 N x1 x2)) = 0 → True) ∧ (¬ (G68 N (G47 N x1 x2)) = 0 → True)))))))))))))))))))))))
theorem t29 {N : NM} {x1 : Int} {x2 : Int} (H : Q29 N x1 x2) : F29 (jm N) (J x1) (J x2) = J (G29 N x1 x2) := by
  unfold Q29 at H
  unfold F29 G29
  obtain ⟨q1, H⟩ := H
  obtain ⟨q2, H⟩ := H
  refine ite_J (eq_J ((congr (congr (congrArg F46 rfl) rfl) rfl).trans (t46 q1)) jl_m1 q2 (by decide)) (fun hc => ?_) (fun hc => ?_)
  · replace H := H.1 ((eq_J ((congr (congr (congrArg F46 rfl) rfl) rfl).trans (t46 q1)) jl_m1 q2 (by decide)).mp hc)
    exact jl_0
  · replace H := H.2 (fun hz => hc ((eq_J ((congr (congr (congrArg F46 rfl) rfl) rfl).trans (t46 q1)) jl_m1 q2 (by decide)).mpr hz))
    obtain ⟨q3, H⟩ := H
    obtain ⟨q4, H⟩ := H
    refine ite_J (eq_J ((congr (congrArg F15 rfl) rfl).trans (t15 q3)) jl_m1 q4 (by decide)) (fun hc => ?_) (fun hc => ?_)
    · replace H := H.1 ((eq_J ((congr (congrArg F15 rfl) rfl).trans (t15 q3)) jl_m1 q4 (by decide)).mp hc)
      exact jl_0
    · replace H := H.2 (fun hz => hc ((eq_J ((congr (congrArg F15 rfl) rfl).trans (t15 q3)) jl_m1 q4 (by decide)).mpr hz))
      obtain ⟨q5, H⟩ := H
      obtain ⟨q6, H⟩ := H
      refine ite_J (eq_J ((congr (congrArg F15 rfl) ((congr (congr (congrArg F46 rfl) rfl) rfl).trans (t46 q1))).trans (t15 q5)) jl_m1 q6 (by decide)) (fun hc => ?_) (fun hc => ?_)
      · replace H := H.1 ((eq_J ((congr (congrArg F15 rfl) ((congr (congr (congrArg F46 rfl) rfl) rfl).trans (t46 q1))).trans (t15 q5)) jl_m1 q6 (by decide)).mp hc)
        exact jl_0
      · replace H := H.2 (fun hz => hc ((eq_J ((congr (congrArg F15 rfl) ((congr (congr (congrArg F46 rfl) rfl) rfl).trans (t46 q1))).trans (t15 q5)) jl_m1 q6 (by decide)).mpr hz))
        obtain ⟨q7, H⟩ := H
        obtain ⟨q8, H⟩ := H
        obtain ⟨q9, H⟩ := H
        obtain ⟨q10, H⟩ := H
        refine ite_J (eq_J ((congr (congr (congrArg F106 rfl) (rd_J (jf_base _ _) ((congr (congrArg F15 rfl) rfl).trans (t15 q3)) q7 (by decide))) (rd_J (jf_base _ _) ((congr (congrArg F15 rfl) ((congr (congr (congrArg F46 rfl) rfl) rfl).trans (t46 q1))).trans (t15 q5)) q8 (by decide))).trans (t106 q9)) jl_0 q10 (by decide)) (fun hc => ?_) (fun hc => ?_)
        · replace H := H.1 ((eq_J ((congr (congr (congrArg F106 rfl) (rd_J (jf_base _ _) ((congr (congrArg F15 rfl) rfl).trans (t15 q3)) q7 (by decide))) (rd_J (jf_base _ _) ((congr (congrArg F15 rfl) ((congr (congr (congrArg F46 rfl) rfl) rfl).trans (t46 q1))).trans (t15 q5)) q8 (by decide))).trans (t106 q9)) jl_0 q10 (by decide)).mp hc)
          exact jl_0
        · replace H := H.2 (fun hz => hc ((eq_J ((congr (congr (congrArg F106 rfl) (rd_J (jf_base _ _) ((congr (congrArg F15 rfl) rfl).trans (t15 q3)) q7 (by decide))) (rd_J (jf_base _ _) ((congr (congrArg F15 rfl) ((congr (congr (congrArg F46 rfl) rfl) rfl).trans (t46 q1))).trans (t15 q5)) q8 (by decide))).trans (t106 q9)) jl_0 q10 (by decide)).mpr hz))
          obtain ⟨q11, H⟩ := H
          obtain ⟨q12, H⟩ := H
          obtain ⟨q13, H⟩ := H
          refine ite_J (eq_J ((congr (congrArg F68 rfl) ((congr (congr (congrArg F47 rfl) rfl) rfl).trans (t47 q11))).trans (t68 q12)) jl_0 q13 (by decide)) (fun hc => ?_) (fun hc => ?_)
          · replace H := H.1 ((eq_J ((congr (congrArg F68 rfl) ((congr (congr (congrArg F47 rfl) rfl) rfl).trans (t47 q11))).trans (t68 q12)) jl_0 q13 (by decide)).mp hc)
            exact jl_1
          · replace H := H.2 (fun hz => hc ((eq_J ((congr (congrArg F68 rfl) ((congr (congr (congrArg F47 rfl) rfl) rfl).trans (t47 q11))).trans (t68 q12)) jl_0 q13 (by decide)).mpr hz))
            exact jl_0
theorem p29 {N : NM} {x1 : Int} {x2 : Int} (H : Q29 N x1 x2) : P29 (jm N) (J x1) (J x2) := by
  unfold Q29 at H
  unfold P29
  obtain ⟨q1, H⟩ := H
  refine ⟨Eq.mpr (congr (congr (congrArg P46 rfl) rfl) rfl) (p46 q1), ?_⟩
  obtain ⟨q2, H⟩ := H
  refine ⟨fun hc => ?_, fun hc => ?_⟩
  · replace H := H.1 ((eq_J ((congr (congr (congrArg F46 rfl) rfl) rfl).trans (t46 q1)) jl_m1 q2 (by decide)).mp hc)
    trivial
  · replace H := H.2 (fun hz => hc ((eq_J ((congr (congr (congrArg F46 rfl) rfl) rfl).trans (t46 q1)) jl_m1 q2 (by decide)).mpr hz))
    obtain ⟨q3, H⟩ := H
    refine ⟨Eq.mpr (congr (congrArg P15 rfl) rfl) (p15 q3), ?_⟩
    obtain ⟨q4, H⟩ := H
    refine ⟨fun hc => ?_, fun hc => ?_⟩
    · replace H := H.1 ((eq_J ((congr (congrArg F15 rfl) rfl).trans (t15 q3)) jl_m1 q4 (by decide)).mp hc)
      trivial
    · replace H := H.2 (fun hz => hc ((eq_J ((congr (congrArg F15 rfl) rfl).trans (t15 q3)) jl_m1 q4 (by decide)).mpr hz))
      obtain ⟨q5, H⟩ := H
      refine ⟨Eq.mpr (congr (congrArg P15 rfl) ((congr (congr (congrArg F46 rfl) rfl) rfl).trans (t46 q1))) (p15 q5), ?_⟩
      obtain ⟨q6, H⟩ := H
      refine ⟨fun hc => ?_, fun hc => ?_⟩
      · replace H := H.1 ((eq_J ((congr (congrArg F15 rfl) ((congr (congr (congrArg F46 rfl) rfl) rfl).trans (t46 q1))).trans (t15 q5)) jl_m1 q6 (by decide)).mp hc)
        trivial
      · replace H := H.2 (fun hz => hc ((eq_J ((congr (congrArg F15 rfl) ((congr (congr (congrArg F46 rfl) rfl) rfl).trans (t46 q1))).trans (t15 q5)) jl_m1 q6 (by decide)).mpr hz))
        refine ⟨Eq.mpr (congr (congrArg P15 rfl) rfl) (p15 q3), ?_⟩
        obtain ⟨q7, H⟩ := H
        refine ⟨inb_J ((congr (congrArg F15 rfl) rfl).trans (t15 q3)) q7 (by decide), ?_⟩
        refine ⟨Eq.mpr (congr (congrArg P15 rfl) ((congr (congr (congrArg F46 rfl) rfl) rfl).trans (t46 q1))) (p15 q5), ?_⟩
        obtain ⟨q8, H⟩ := H
        refine ⟨inb_J ((congr (congrArg F15 rfl) ((congr (congr (congrArg F46 rfl) rfl) rfl).trans (t46 q1))).trans (t15 q5)) q8 (by decide), ?_⟩
        obtain ⟨q9, H⟩ := H
        refine ⟨Eq.mpr (congr (congr (congrArg P106 rfl) (rd_J (jf_base _ _) ((congr (congrArg F15 rfl) rfl).trans (t15 q3)) q7 (by decide))) (rd_J (jf_base _ _) ((congr (congrArg F15 rfl) ((congr (congr (congrArg F46 rfl) rfl) rfl).trans (t46 q1))).trans (t15 q5)) q8 (by decide))) (p106 q9), ?_⟩
        obtain ⟨q10, H⟩ := H
        refine ⟨fun hc => ?_, fun hc => ?_⟩
        · replace H := H.1 ((eq_J ((congr (congr (congrArg F106 rfl) (rd_J (jf_base _ _) ((congr (congrArg F15 rfl) rfl).trans (t15 q3)) q7 (by decide))) (rd_J (jf_base _ _) ((congr (congrArg F15 rfl) ((congr (congr (congrArg F46 rfl) rfl) rfl).trans (t46 q1))).trans (t15 q5)) q8 (by decide))).trans (t106 q9)) jl_0 q10 (by decide)).mp hc)
          trivial
        · replace H := H.2 (fun hz => hc ((eq_J ((congr (congr (congrArg F106 rfl) (rd_J (jf_base _ _) ((congr (congrArg F15 rfl) rfl).trans (t15 q3)) q7 (by decide))) (rd_J (jf_base _ _) ((congr (congrArg F15 rfl) ((congr (congr (congrArg F46 rfl) rfl) rfl).trans (t46 q1))).trans (t15 q5)) q8 (by decide))).trans (t106 q9)) jl_0 q10 (by decide)).mpr hz))
          obtain ⟨q11, H⟩ := H
          refine ⟨Eq.mpr (congr (congr (congrArg P47 rfl) rfl) rfl) (p47 q11), ?_⟩
          obtain ⟨q12, H⟩ := H
          exact Eq.mpr (congr (congrArg P68 rfl) ((congr (congr (congrArg F47 rfl) rfl) rfl).trans (t47 q11))) (p68 q12)
theorem sz29 {E : gw_N} {N : NM} {x1 : Int} {x2 : Int} (H : Q29 N x1 x2) : Rn 29 [.ref 44, .int (J x1), .int (J x2)] (hs E (jm N)) (some (.int (J (G29 N x1 x2)))) (hs E (jm N)) := by
  have h := s29 (E := E) (M := jm N) (x1 := J x1) (x2 := J x2) (p29 H)
  rw [t29 H] at h
  exact h
-- 31 GlassWires$Glass harmedCells (II)I
theorem v31_0 {E : gw_N} {N : NM} {res : Option Value × gw_H} {x1 : Int} {x2 : Int} (H : Ev 4 31 5 [some (.ref 44), some (.int (J x1)), some (.int (J x2)), some (.int (J 0)), some (.int (J 0))] [] (hs E (jm N)) res) : Ev 4 31 0 [some (.ref 44), some (.int (J x1)), some (.int (J x2)), none, none] [] (hs E (jm N)) res := by
  refine w31_0 ?_
  exact Ev_to (clx (cli rfl (cli rfl (cli jl_0 (cli jl_0 rfl))))) rfl rfl H
theorem v31_5 {E : gw_N} {N : NM} {res : Option Value × gw_H} {x1 : Int} {x2 : Int} {x3 : Int} {x4 : Int} (H : ((R (G40 N)) ∧ ((R x4) ∧ (((G40 N) ≤ x4 → res = (some (.int (J x3)), hs E (jm N))) ∧ (¬ (G40 N) ≤ x4 → ((Q5 N x4) ∧ ((R (G5 N x4)) ∧ (((G5 N x4) = 0 → Ev 4 31 5 [some (.ref 44), some (.int (J x1)), some (.int (J x2)), some (.int (J x3)), some (.int (J (x4 + 1)))] [] (hs E (jm N)) res) ∧ (¬ (G5 N x4) = 0 → ((R x1) ∧ ((x4 = x1 → Ev 4 31 5 [some (.ref 44), some (.int (J x1)), some (.int (J x2)), some (.int (J x3)), some (.int (J (x4 + 1)))] [] (hs E (jm N)) res) ∧ (¬ x4 = x1 → (∃ (r1 : Int), Rn 33 [.ref 44, .int (J x4)] (hs E (jm N)) (some (.int (J r1))) (hs E (jm N)) ∧ ((R x2) ∧ ((R r1) ∧ ((x2 ≤ r1 → ((Q206 N 0) ∧ Ev 4 31 5 [some (.ref 44), some (.int (J x1)), some (.int (J x2)), some (.int (J (x3 + (G206 N 0)))), some (.int (J (x4 + 1)))] [] (hs E (jm N)) res)) ∧ (¬ x2 ≤ r1 → ((Q206 N 1) ∧ Ev 4 31 5 [some (.ref 44), some (.int (J x1)), some (.int (J x2)), some (.int (J (x3 + (G206 N 1)))), some (.int (J (x4 + 1)))] [] (hs E (jm N)) res)))))))))))))))))) : Ev 4 31 5 [some (.ref 44), some (.int (J x1)), some (.int (J x2)), some (.int (J x3)), some (.int (J x4))] [] (hs E (jm N)) res := by
  refine w31_5 ?_
  obtain ⟨q1, q2, H⟩ := H
  refine ⟨fun hc => ?_, fun hc => ?_⟩
  · replace H := H.1 ((le_J ((congrArg F40 rfl).trans (t40)) rfl q1 q2).mp hc)
    exact H.trans (rt_i rfl rfl)
  · replace H := H.2 (fun hz => hc ((le_J ((congrArg F40 rfl).trans (t40)) rfl q1 q2).mpr hz))
    obtain ⟨q3, H⟩ := H
    refine ⟨Eq.mpr (congr (congrArg P5 rfl) rfl) (p5 q3), ?_⟩
    obtain ⟨q4, H⟩ := H
    refine ⟨fun hc => ?_, fun hc => ?_⟩
    · replace H := H.1 ((eq_J ((congr (congrArg F5 rfl) rfl).trans (t5 q3)) jl_0 q4 (by decide)).mp hc)
      exact Ev_to (clx (cli rfl (cli rfl (cli rfl (cli (add_J rfl jl_1) rfl))))) rfl rfl H
    · replace H := H.2 (fun hz => hc ((eq_J ((congr (congrArg F5 rfl) rfl).trans (t5 q3)) jl_0 q4 (by decide)).mpr hz))
      obtain ⟨q5, H⟩ := H
      refine ⟨fun hc => ?_, fun hc => ?_⟩
      · replace H := H.1 ((eq_J rfl rfl q2 q5).mp hc)
        exact Ev_to (clx (cli rfl (cli rfl (cli rfl (cli (add_J rfl jl_1) rfl))))) rfl rfl H
      · replace H := H.2 (fun hz => hc ((eq_J rfl rfl q2 q5).mpr hz))
        obtain ⟨r1, q10, H⟩ := H
        refine ⟨J r1, Rn_to (clx (cai rfl rfl)) rfl rfl q10, ?_⟩
        obtain ⟨q6, q7, H⟩ := H
        refine ⟨fun hc => ?_, fun hc => ?_⟩
        · replace H := H.1 ((le_J rfl rfl q6 q7).mp hc)
          obtain ⟨q8, H⟩ := H
          exact Ev_to (clx (cli rfl (cli rfl (cli (add_J rfl ((congr (congrArg F206 rfl) jl_0).trans (t206 q8))) (cli (add_J rfl jl_1) rfl))))) rfl rfl H
        · replace H := H.2 (fun hz => hc ((le_J rfl rfl q6 q7).mpr hz))
          obtain ⟨q9, H⟩ := H
          exact Ev_to (clx (cli rfl (cli rfl (cli (add_J rfl ((congr (congrArg F206 rfl) jl_1).trans (t206 q9))) (cli (add_J rfl jl_1) rfl))))) rfl rfl H
-- 32 GlassWires$Glass harmlessHeat (I)I
theorem v32_0 {E : gw_N} {N : NM} {res : Option Value × gw_H} {x1 : Int} (H : Ev 4 32 6 [some (.ref 44), some (.int (J x1)), some (.int (J 999)), some (.int (J 0))] [] (hs E (jm N)) res) : Ev 4 32 0 [some (.ref 44), some (.int (J x1)), none, none] [] (hs E (jm N)) res := by
  refine w32_0 ?_
  exact Ev_to (clx (cli rfl (cli jl_999 (cli jl_0 rfl)))) rfl rfl H
theorem v32_6 {E : gw_N} {N : NM} {res : Option Value × gw_H} {x1 : Int} {x2 : Int} {x3 : Int} (H : ((R (G40 N)) ∧ ((R x3) ∧ (((G40 N) ≤ x3 → res = (some (.int (J x2)), hs E (jm N))) ∧ (¬ (G40 N) ≤ x3 → ((Q5 N x3) ∧ ((R (G5 N x3)) ∧ (((G5 N x3) = 0 → Ev 4 32 6 [some (.ref 44), some (.int (J x1)), some (.int (J x2)), some (.int (J (x3 + 1)))] [] (hs E (jm N)) res) ∧ (¬ (G5 N x3) = 0 → ((R x1) ∧ ((x3 = x1 → Ev 4 32 6 [some (.ref 44), some (.int (J x1)), some (.int (J x2)), some (.int (J (x3 + 1)))] [] (hs E (jm N)) res) ∧ (¬ x3 = x1 → (∃ (r1 : Int), Rn 33 [.ref 44, .int (J x3)] (hs E (jm N)) (some (.int (J r1))) (hs E (jm N)) ∧ ((Q312 N x2 r1) ∧ Ev 4 32 6 [some (.ref 44), some (.int (J x1)), some (.int (J (G312 N x2 r1))), some (.int (J (x3 + 1)))] [] (hs E (jm N)) res)))))))))))))) : Ev 4 32 6 [some (.ref 44), some (.int (J x1)), some (.int (J x2)), some (.int (J x3))] [] (hs E (jm N)) res := by
  refine w32_6 ?_
  obtain ⟨q1, q2, H⟩ := H
  refine ⟨fun hc => ?_, fun hc => ?_⟩
  · replace H := H.1 ((le_J ((congrArg F40 rfl).trans (t40)) rfl q1 q2).mp hc)
    exact H.trans (rt_i rfl rfl)
  · replace H := H.2 (fun hz => hc ((le_J ((congrArg F40 rfl).trans (t40)) rfl q1 q2).mpr hz))
    obtain ⟨q3, H⟩ := H
    refine ⟨Eq.mpr (congr (congrArg P5 rfl) rfl) (p5 q3), ?_⟩
    obtain ⟨q4, H⟩ := H
    refine ⟨fun hc => ?_, fun hc => ?_⟩
    · replace H := H.1 ((eq_J ((congr (congrArg F5 rfl) rfl).trans (t5 q3)) jl_0 q4 (by decide)).mp hc)
      exact Ev_to (clx (cli rfl (cli rfl (cli (add_J rfl jl_1) rfl)))) rfl rfl H
    · replace H := H.2 (fun hz => hc ((eq_J ((congr (congrArg F5 rfl) rfl).trans (t5 q3)) jl_0 q4 (by decide)).mpr hz))
      obtain ⟨q5, H⟩ := H
      refine ⟨fun hc => ?_, fun hc => ?_⟩
      · replace H := H.1 ((eq_J rfl rfl q2 q5).mp hc)
        exact Ev_to (clx (cli rfl (cli rfl (cli (add_J rfl jl_1) rfl)))) rfl rfl H
      · replace H := H.2 (fun hz => hc ((eq_J rfl rfl q2 q5).mpr hz))
        obtain ⟨r1, q7, H⟩ := H
        refine ⟨J r1, Rn_to (clx (cai rfl rfl)) rfl rfl q7, ?_⟩
        obtain ⟨q6, H⟩ := H
        exact Ev_to (clx (cli rfl (cli ((congr (congr (congrArg F312 rfl) rfl) rfl).trans (t312 q6)) (cli (add_J rfl jl_1) rfl)))) rfl rfl H
-- 57 GlassWires$Net read ()V
theorem v57_0 {E : gw_N} {N : NM} {res : Option Value × gw_H}  (H : (∃ (N1 : NM), Rn 313 [.ref 23, .int (J 0)] (hs E (jm N)) none (hs E (jm N1)) ∧ (∃ (N2 : NM), Rn 313 [.ref 24, .int (J 0)] (hs E (jm N1)) none (hs E (jm N2)) ∧ (∃ (N3 : NM), Rn 313 [.ref 25, .int (J 0)] (hs E (jm N2)) none (hs E (jm N3)) ∧ (∃ (N4 : NM), Rn 313 [.ref 26, .int (J (-1))] (hs E (jm N3)) none (hs E (jm N4)) ∧ (∃ (N5 : NM), Rn 313 [.ref 27, .int (J (-1))] (hs E (jm N4)) none (hs E (jm N5)) ∧ Ev 4 57 42 [some (.ref 22), some (.int (J 0))] [] (hs E (jm N5)) res)))))) : Ev 4 57 0 [some (.ref 22), none] [] (hs E (jm N)) res := by
  refine w57_0 ?_
  obtain ⟨N1, q5, H⟩ := H
  refine ⟨jm N1, Rn_to (clx (cai jl_0 rfl)) rfl rfl q5, ?_⟩
  obtain ⟨N2, q4, H⟩ := H
  refine ⟨jm N2, Rn_to (clx (cai jl_0 rfl)) rfl rfl q4, ?_⟩
  obtain ⟨N3, q3, H⟩ := H
  refine ⟨jm N3, Rn_to (clx (cai jl_0 rfl)) rfl rfl q3, ?_⟩
  obtain ⟨N4, q2, H⟩ := H
  refine ⟨jm N4, Rn_to (clx (cai jl_m1 rfl)) rfl rfl q2, ?_⟩
  obtain ⟨N5, q1, H⟩ := H
  refine ⟨jm N5, Rn_to (clx (cai jl_m1 rfl)) rfl rfl q1, ?_⟩
  exact Ev_to (clx (cli jl_0 rfl)) rfl rfl H
theorem v57_42 {E : gw_N} {N : NM} {res : Option Value × gw_H} {x1 : Int} (H : ((R (G143 N)) ∧ ((R x1) ∧ (((G143 N) ≤ x1 → (∃ (N1 : NM), Rn 61 [.ref 22] (hs E (jm N)) none (hs E (jm N1)) ∧ res = (none, hs E (jm N1)))) ∧ (¬ (G143 N) ≤ x1 → ((Q145 N x1) ∧ ((R (G145 N x1)) ∧ (((G145 N x1) = 0 → Ev 4 57 42 [some (.ref 22), some (.int (J (x1 + 1)))] [] (hs E (jm N)) res) ∧ (¬ (G145 N x1) = 0 → (∃ (N2 : NM), Rn 58 [.ref 22, .int (J x1)] (hs E (jm N)) none (hs E (jm N2)) ∧ Ev 4 57 42 [some (.ref 22), some (.int (J (x1 + 1)))] [] (hs E (jm N2)) res)))))))))) : Ev 4 57 42 [some (.ref 22), some (.int (J x1))] [] (hs E (jm N)) res := by
  refine w57_42 ?_
  obtain ⟨q1, q2, H⟩ := H
  refine ⟨fun hc => ?_, fun hc => ?_⟩
  · replace H := H.1 ((le_J ((congrArg F143 rfl).trans (t143)) rfl q1 q2).mp hc)
    obtain ⟨N1, q3, H⟩ := H
    refine ⟨jm N1, Rn_to (clx rfl) rfl rfl q3, ?_⟩
    exact H.trans (rt_n rfl)
  · replace H := H.2 (fun hz => hc ((le_J ((congrArg F143 rfl).trans (t143)) rfl q1 q2).mpr hz))
    obtain ⟨q4, H⟩ := H
    refine ⟨Eq.mpr (congr (congrArg P145 rfl) rfl) (p145 q4), ?_⟩
    obtain ⟨q5, H⟩ := H
    refine ⟨fun hc => ?_, fun hc => ?_⟩
    · replace H := H.1 ((eq_J ((congr (congrArg F145 rfl) rfl).trans (t145 q4)) jl_0 q5 (by decide)).mp hc)
      exact Ev_to (clx (cli (add_J rfl jl_1) rfl)) rfl rfl H
    · replace H := H.2 (fun hz => hc ((eq_J ((congr (congrArg F145 rfl) rfl).trans (t145 q4)) jl_0 q5 (by decide)).mpr hz))
      obtain ⟨N2, q6, H⟩ := H
      refine ⟨jm N2, Rn_to (clx (cai rfl rfl)) rfl rfl q6, ?_⟩
      exact Ev_to (clx (cli (add_J rfl jl_1) rfl)) rfl rfl H
-- 74 GlassWires$Net isCovered (III)Z
theorem v74_0 {E : gw_N} {N : NM} {res : Option Value × gw_H} {x1 : Int} {x2 : Int} {x3 : Int} (H : ((Q53 N x3) ∧ ((Q54 N x3) ∧ ((Q41 N (x1 + (G53 N x3)) (x2 + (G54 N x3))) ∧ ((R (G41 N (x1 + (G53 N x3)) (x2 + (G54 N x3)))) ∧ (((G41 N (x1 + (G53 N x3)) (x2 + (G54 N x3))) = 0 → res = (some (.int (J 0)), hs E (jm N))) ∧ (¬ (G41 N (x1 + (G53 N x3)) (x2 + (G54 N x3))) = 0 → ((Q52 N x1 x2 x3) ∧ ((0 ≤ (G52 N x1 x2 x3) ∧ (G52 N x1 x2 x3) < 178) ∧ ((R ((N 23) (G52 N x1 x2 x3))) ∧ ((((N 23) (G52 N x1 x2 x3)) ≤ 0 → res = (some (.int (J 0)), hs E (jm N))) ∧ (¬ ((N 23) (G52 N x1 x2 x3)) ≤ 0 → res = (some (.int (J 1)), hs E (jm N)))))))))))))) : Ev 4 74 0 [some (.ref 22), some (.int (J x1)), some (.int (J x2)), some (.int (J x3))] [] (hs E (jm N)) res := by
  refine w74_0 ?_
  obtain ⟨q1, H⟩ := H
  obtain ⟨q2, H⟩ := H
  obtain ⟨q3, H⟩ := H
  obtain ⟨q4, H⟩ := H
  refine ⟨fun hc => ?_, fun hc => ?_⟩
  · replace H := H.1 ((eq_J ((congr (congr (congrArg F41 rfl) (add_J rfl ((congr (congrArg F53 rfl) rfl).trans (t53 q1)))) (add_J rfl ((congr (congrArg F54 rfl) rfl).trans (t54 q2)))).trans (t41 q3)) jl_0 q4 (by decide)).mp hc)
    exact H.trans (rt_i jl_0 rfl)
  · replace H := H.2 (fun hz => hc ((eq_J ((congr (congr (congrArg F41 rfl) (add_J rfl ((congr (congrArg F53 rfl) rfl).trans (t53 q1)))) (add_J rfl ((congr (congrArg F54 rfl) rfl).trans (t54 q2)))).trans (t41 q3)) jl_0 q4 (by decide)).mpr hz))
    obtain ⟨q5, H⟩ := H
    obtain ⟨q6, H⟩ := H
    refine ⟨inb_J ((congr (congr (congr (congrArg F52 rfl) rfl) rfl) rfl).trans (t52 q5)) q6 (by decide), ?_⟩
    obtain ⟨q7, H⟩ := H
    refine ⟨fun hc => ?_, fun hc => ?_⟩
    · replace H := H.1 ((le_J (rd_J (jf_base _ _) ((congr (congr (congr (congrArg F52 rfl) rfl) rfl) rfl).trans (t52 q5)) q6 (by decide)) jl_0 q7 (by decide)).mp hc)
      exact H.trans (rt_i jl_0 rfl)
    · replace H := H.2 (fun hz => hc ((le_J (rd_J (jf_base _ _) ((congr (congr (congr (congrArg F52 rfl) rfl) rfl) rfl).trans (t52 q5)) q6 (by decide)) jl_0 q7 (by decide)).mpr hz))
      exact H.trans (rt_i jl_1 rfl)
def G74 (N : NM) (x1 : Int) (x2 : Int) (x3 : Int) : Int := (if (G41 N (x1 + (G53 N x3)) (x2 + (G54 N x3))) = 0 then 0 else (if ((N 23) (G52 N x1 x2 x3)) ≤ 0 then 0 else 1))
def Q74 (N : NM) (x1 : Int) (x2 : Int) (x3 : Int) : Prop := ((Q53 N x3) ∧ ((Q54 N x3) ∧ ((Q41 N (x1 + (G53 N x3)) (x2 + (G54 N x3))) ∧ ((R (G41 N (x1 + (G53 N x3)) (x2 + (G54 N x3)))) ∧ (((G41 N (x1 + (G53 N x3)) (x2 + (G54 N x3))) = 0 → True) ∧ (¬ (G41 N (x1 + (G53 N x3)) (x2 + (G54 N x3))) = 0 → ((Q52 N x1 x2 x3) ∧ ((0 ≤ (G52 N x1 x2 x3) ∧ (G52 N x1 x2 x3) < 178) ∧ ((R ((N 23) (G52 N x1 x2 x3))) ∧ ((((N 23) (G52 N x1 x2 x3)) ≤ 0 → True) ∧ (¬ ((N 23) (G52 N x1 x2 x3)) ≤ 0 → True)))))))))))
theorem t74 {N : NM} {x1 : Int} {x2 : Int} {x3 : Int} (H : Q74 N x1 x2 x3) : F74 (jm N) (J x1) (J x2) (J x3) = J (G74 N x1 x2 x3) := by
  unfold Q74 at H
  unfold F74 G74
  obtain ⟨q1, H⟩ := H
  obtain ⟨q2, H⟩ := H
  obtain ⟨q3, H⟩ := H
  obtain ⟨q4, H⟩ := H
  refine ite_J (eq_J ((congr (congr (congrArg F41 rfl) (add_J rfl ((congr (congrArg F53 rfl) rfl).trans (t53 q1)))) (add_J rfl ((congr (congrArg F54 rfl) rfl).trans (t54 q2)))).trans (t41 q3)) jl_0 q4 (by decide)) (fun hc => ?_) (fun hc => ?_)
  · replace H := H.1 ((eq_J ((congr (congr (congrArg F41 rfl) (add_J rfl ((congr (congrArg F53 rfl) rfl).trans (t53 q1)))) (add_J rfl ((congr (congrArg F54 rfl) rfl).trans (t54 q2)))).trans (t41 q3)) jl_0 q4 (by decide)).mp hc)
    exact jl_0
  · replace H := H.2 (fun hz => hc ((eq_J ((congr (congr (congrArg F41 rfl) (add_J rfl ((congr (congrArg F53 rfl) rfl).trans (t53 q1)))) (add_J rfl ((congr (congrArg F54 rfl) rfl).trans (t54 q2)))).trans (t41 q3)) jl_0 q4 (by decide)).mpr hz))
    obtain ⟨q5, H⟩ := H
    obtain ⟨q6, H⟩ := H
    obtain ⟨q7, H⟩ := H
    refine ite_J (le_J (rd_J (jf_base _ _) ((congr (congr (congr (congrArg F52 rfl) rfl) rfl) rfl).trans (t52 q5)) q6 (by decide)) jl_0 q7 (by decide)) (fun hc => ?_) (fun hc => ?_)
    · replace H := H.1 ((le_J (rd_J (jf_base _ _) ((congr (congr (congr (congrArg F52 rfl) rfl) rfl) rfl).trans (t52 q5)) q6 (by decide)) jl_0 q7 (by decide)).mp hc)
      exact jl_0
    · replace H := H.2 (fun hz => hc ((le_J (rd_J (jf_base _ _) ((congr (congr (congr (congrArg F52 rfl) rfl) rfl) rfl).trans (t52 q5)) q6 (by decide)) jl_0 q7 (by decide)).mpr hz))
      exact jl_1
theorem p74 {N : NM} {x1 : Int} {x2 : Int} {x3 : Int} (H : Q74 N x1 x2 x3) : P74 (jm N) (J x1) (J x2) (J x3) := by
  unfold Q74 at H
  unfold P74
  obtain ⟨q1, H⟩ := H
  obtain ⟨q2, H⟩ := H
  obtain ⟨q3, H⟩ := H
  obtain ⟨q4, H⟩ := H
  refine ⟨fun hc => ?_, fun hc => ?_⟩
  · replace H := H.1 ((eq_J ((congr (congr (congrArg F41 rfl) (add_J rfl ((congr (congrArg F53 rfl) rfl).trans (t53 q1)))) (add_J rfl ((congr (congrArg F54 rfl) rfl).trans (t54 q2)))).trans (t41 q3)) jl_0 q4 (by decide)).mp hc)
    trivial
  · replace H := H.2 (fun hz => hc ((eq_J ((congr (congr (congrArg F41 rfl) (add_J rfl ((congr (congrArg F53 rfl) rfl).trans (t53 q1)))) (add_J rfl ((congr (congrArg F54 rfl) rfl).trans (t54 q2)))).trans (t41 q3)) jl_0 q4 (by decide)).mpr hz))
    obtain ⟨q5, H⟩ := H
    obtain ⟨q6, H⟩ := H
    exact inb_J ((congr (congr (congr (congrArg F52 rfl) rfl) rfl) rfl).trans (t52 q5)) q6 (by decide)
theorem sz74 {E : gw_N} {N : NM} {x1 : Int} {x2 : Int} {x3 : Int} (H : Q74 N x1 x2 x3) : Rn 74 [.ref 22, .int (J x1), .int (J x2), .int (J x3)] (hs E (jm N)) (some (.int (J (G74 N x1 x2 x3)))) (hs E (jm N)) := by
  have h := s74 (E := E) (M := jm N) (x1 := J x1) (x2 := J x2) (x3 := J x3) (p74 H)
  rw [t74 H] at h
  exact h
-- 124 GlassWires$Rods leastCost (LGlassWires$Wires;)I
theorem v124_0 {E : gw_N} {N : NM} {res : Option Value × gw_H}  (H : (∃ (r1 : Int), Rn 123 [.ref 14] (hs E (jm N)) (some (.int (J r1))) (hs E (jm N)) ∧ (∃ (N2 : NM), Rn 125 [.ref 54, .ref 14] (hs E (jm N)) none (hs E (jm N2)) ∧ (∃ (N3 : NM), Rn 313 [.ref 58, .int (J 1000000)] (hs E (jm N2)) none (hs E (jm N3)) ∧ Ev 4 124 28 [some (.ref 54), none, some (.int (J r1)), some (.int (J 0)), none, none, none] [] (hs E (jm (upZ N3 58 (updZ (N3 58) 0 0)))) res)))) : Ev 4 124 0 [some (.ref 54), some (.ref 14), none, none, none, none, none] [] (hs E (jm N)) res := by
  refine w124_0 ?_
  obtain ⟨r1, q3, H⟩ := H
  refine ⟨J r1, Rn_to (clx rfl) rfl rfl q3, ?_⟩
  obtain ⟨N2, q2, H⟩ := H
  refine ⟨jm N2, Rn_to (clx (clx rfl)) rfl rfl q2, ?_⟩
  obtain ⟨N3, q1, H⟩ := H
  refine ⟨jm N3, Rn_to (clx (cai jl_1000000 rfl)) rfl rfl q1, ?_⟩
  refine ⟨inb_J jl_0 (by decide : (0 : Int) ≤ 0 ∧ (0 : Int) < 256) (by decide), ?_⟩
  exact Ev_to (clx (clx (cli rfl (cli jl_0 (clx (clx (clx rfl))))))) rfl (jm_up rfl (jf_upd (jf_base _ _) jl_0 (by decide : (0 : Int) ≤ 0 ∧ (0 : Int) < 256) (by decide) jl_0)) H
theorem v124_28 {E : gw_N} {N : NM} {res : Option Value × gw_H} {x2 : Int} {x3 : Int} (H : ((R ((N 54) 4)) ∧ ((R x3) ∧ ((((N 54) 4) ≤ x3 → ((0 ≤ x2 ∧ x2 < 256) ∧ res = (some (.int (J ((N 58) x2))), hs E (jm N)))) ∧ (¬ ((N 54) 4) ≤ x3 → ((0 ≤ x3 ∧ x3 < 8) ∧ ((Q312 N ((N 56) x3) 8) ∧ Ev 4 124 55 [some (.ref 54), none, some (.int (J x2)), some (.int (J x3)), some (.int (J (G312 N ((N 56) x3) 8))), some (.int (J 1)), some (.int (J 0))] [] (hs E (jm N)) res))))))) : Ev 4 124 28 [some (.ref 54), none, some (.int (J x2)), some (.int (J x3)), none, none, none] [] (hs E (jm N)) res := by
  refine w124_28 ?_
  obtain ⟨q1, q2, H⟩ := H
  refine ⟨fun hc => ?_, fun hc => ?_⟩
  · replace H := H.1 ((le_J (fld_J (jf_base _ _)) rfl q1 q2).mp hc)
    obtain ⟨q3, H⟩ := H
    refine ⟨inb_J rfl q3 (by decide), ?_⟩
    exact H.trans (rt_i (rd_J (jf_base _ _) rfl q3 (by decide)) rfl)
  · replace H := H.2 (fun hz => hc ((le_J (fld_J (jf_base _ _)) rfl q1 q2).mpr hz))
    obtain ⟨q4, H⟩ := H
    refine ⟨inb_J rfl q4 (by decide), ?_⟩
    obtain ⟨q5, H⟩ := H
    exact Ev_to (clx (clx (cli rfl (cli rfl (cli ((congr (congr (congrArg F312 rfl) (rd_J (jf_base _ _) rfl q4 (by decide))) jl_8).trans (t312 q5)) (cli jl_1 (cli jl_0 rfl))))))) rfl rfl H
theorem v124_55 {E : gw_N} {N : NM} {res : Option Value × gw_H} {x2 : Int} {x3 : Int} {x4 : Int} {x5 : Int} {x6 : Int} (H : ((R x5) ∧ ((x5 = 0 → Ev 4 124 28 [some (.ref 54), none, some (.int (J x2)), some (.int (J (x3 + 1))), none, none, none] [] (hs E (jm N)) res) ∧ (¬ x5 = 0 → ((R x4) ∧ ((R x6) ∧ ((x4 ≤ x6 → Ev 4 124 28 [some (.ref 54), none, some (.int (J x2)), some (.int (J (x3 + 1))), none, none, none] [] (hs E (jm N)) res) ∧ (¬ x4 ≤ x6 → ((0 ≤ x3 ∧ x3 < 8) ∧ (∃ (r1 : Int) (N1 : NM), Rn 126 [.ref 54, .int (J ((N 55) x3)), .int (J x2)] (hs E (jm N)) (some (.int (J r1))) (hs E (jm N1)) ∧ Ev 4 124 55 [some (.ref 54), none, some (.int (J x2)), some (.int (J x3)), some (.int (J x4)), some (.int (J r1)), some (.int (J (x6 + 1)))] [] (hs E (jm N1)) res)))))))))) : Ev 4 124 55 [some (.ref 54), none, some (.int (J x2)), some (.int (J x3)), some (.int (J x4)), some (.int (J x5)), some (.int (J x6))] [] (hs E (jm N)) res := by
  refine w124_55 ?_
  obtain ⟨q1, H⟩ := H
  refine ⟨fun hc => ?_, fun hc => ?_⟩
  · replace H := H.1 ((eq_J rfl jl_0 q1 (by decide)).mp hc)
    exact Ev_to (clx (clx (cli rfl (cli (add_J rfl jl_1) (clx (clx (clx rfl))))))) rfl rfl H
  · replace H := H.2 (fun hz => hc ((eq_J rfl jl_0 q1 (by decide)).mpr hz))
    obtain ⟨q2, q3, H⟩ := H
    refine ⟨fun hc => ?_, fun hc => ?_⟩
    · replace H := H.1 ((le_J rfl rfl q2 q3).mp hc)
      exact Ev_to (clx (clx (cli rfl (cli (add_J rfl jl_1) (clx (clx (clx rfl))))))) rfl rfl H
    · replace H := H.2 (fun hz => hc ((le_J rfl rfl q2 q3).mpr hz))
      obtain ⟨q4, H⟩ := H
      refine ⟨inb_J rfl q4 (by decide), ?_⟩
      obtain ⟨r1, N1, q5, H⟩ := H
      refine ⟨J r1, jm N1, Rn_to (clx (cai (rd_J (jf_base _ _) rfl q4 (by decide)) (cai rfl rfl))) rfl rfl q5, ?_⟩
      exact Ev_to (clx (clx (cli rfl (cli rfl (cli rfl (cli rfl (cli (add_J rfl jl_1) rfl))))))) rfl rfl H
-- 132 GlassWires$Tension bowNow ()I
theorem v132_0 {E : gw_N} {N : NM} {res : Option Value × gw_H}  (H : (∃ (r1 : Int), Rn 30 [.ref 44] (hs E (jm N)) (some (.int (J r1))) (hs E (jm N)) ∧ ((Q130 N) ∧ ((Q133 N r1 (G130 N)) ∧ res = (some (.int (J (G133 N r1 (G130 N)))), hs E (jm N)))))) : Ev 4 132 0 [some (.ref 53)] [] (hs E (jm N)) res := by
  refine w132_0 ?_
  obtain ⟨r1, q3, H⟩ := H
  refine ⟨J r1, Rn_to (clx rfl) rfl rfl q3, ?_⟩
  obtain ⟨q1, H⟩ := H
  refine ⟨Eq.mpr (congrArg P130 rfl) (p130 q1), ?_⟩
  obtain ⟨q2, H⟩ := H
  refine ⟨Eq.mpr (congr (congr (congrArg P133 rfl) rfl) ((congrArg F130 rfl).trans (t130 q1))) (p133 q2), ?_⟩
  exact H.trans (rt_i ((congr (congr (congrArg F133 rfl) rfl) ((congrArg F130 rfl).trans (t130 q1))).trans (t133 q2)) rfl)
