/-! by program (wpz.py): the formulas over the integers -/
-- 3 GlassWires$Cells total ()I
theorem v3_0 {E : gw_N} {N : NM} {res : Option Value × gw_H}  (H : res = (some (.int (J ((N 32) 5))), hs E (jm N))) : Ev 1 3 0 [some (.ref 32)] [] (hs E (jm N)) res := by
  refine w3_0 ?_
  exact H.trans (rt_i (fld_J (jf_base _ _)) rfl)
def G3 (N : NM) : Int := ((N 32) 5)
theorem t3 {N : NM} : F3 (jm N) = J (G3 N) := by
  have H : True := trivial
  unfold F3 G3
  exact (fld_J (jf_base _ _))
theorem sz3 {E : gw_N} {N : NM} : Rn 3 [.ref 32] (hs E (jm N)) (some (.int (J (G3 N)))) (hs E (jm N)) := by
  have h := s3 (E := E) (M := jm N)
  rw [t3] at h
  exact h
-- 4 GlassWires$Cells of (I)I
theorem v4_0 {E : gw_N} {N : NM} {res : Option Value × gw_H} {x1 : Int} (H : ((0 ≤ x1 ∧ x1 < 64) ∧ res = (some (.int (J ((N 33) x1))), hs E (jm N)))) : Ev 1 4 0 [some (.ref 32), some (.int (J x1))] [] (hs E (jm N)) res := by
  refine w4_0 ?_
  obtain ⟨q1, H⟩ := H
  refine ⟨inb_J rfl q1 (by decide), ?_⟩
  exact H.trans (rt_i (rd_J (jf_base _ _) rfl q1 (by decide)) rfl)
def G4 (N : NM) (x1 : Int) : Int := ((N 33) x1)
def Q4 (N : NM) (x1 : Int) : Prop := ((0 ≤ x1 ∧ x1 < 64) ∧ True)
theorem t4 {N : NM} {x1 : Int} (H : Q4 N x1) : F4 (jm N) (J x1) = J (G4 N x1) := by
  unfold Q4 at H
  unfold F4 G4
  obtain ⟨q1, H⟩ := H
  exact (rd_J (jf_base _ _) rfl q1 (by decide))
theorem p4 {N : NM} {x1 : Int} (H : Q4 N x1) : P4 (jm N) (J x1) := by
  unfold Q4 at H
  unfold P4
  obtain ⟨q1, H⟩ := H
  exact inb_J rfl q1 (by decide)
theorem sz4 {E : gw_N} {N : NM} {x1 : Int} (H : Q4 N x1) : Rn 4 [.ref 32, .int (J x1)] (hs E (jm N)) (some (.int (J (G4 N x1)))) (hs E (jm N)) := by
  have h := s4 (E := E) (M := jm N) (x1 := J x1) (p4 H)
  rw [t4 H] at h
  exact h
-- 5 GlassWires$Cells has (I)Z
theorem v5_0 {E : gw_N} {N : NM} {res : Option Value × gw_H} {x1 : Int} (H : ((R x1) ∧ ((x1 < 0 → res = (some (.int (J 0)), hs E (jm N))) ∧ (¬ x1 < 0 → (((64 : Int) ≤ x1 → res = (some (.int (J 0)), hs E (jm N))) ∧ (¬ (64 : Int) ≤ x1 → ((0 ≤ x1 ∧ x1 < 64) ∧ ((R ((N 33) x1)) ∧ ((((N 33) x1) = x1 → res = (some (.int (J 1)), hs E (jm N))) ∧ (¬ ((N 33) x1) = x1 → res = (some (.int (J 0)), hs E (jm N)))))))))))) : Ev 1 5 0 [some (.ref 32), some (.int (J x1))] [] (hs E (jm N)) res := by
  refine w5_0 ?_
  obtain ⟨q1, H⟩ := H
  refine ⟨fun hc => ?_, fun hc => ?_⟩
  · replace H := H.1 ((lt_J rfl jl_0 q1 (by decide)).mp hc)
    exact H.trans (rt_i jl_0 rfl)
  · replace H := H.2 (fun hz => hc ((lt_J rfl jl_0 q1 (by decide)).mpr hz))
    refine ⟨fun hc => ?_, fun hc => ?_⟩
    · replace H := H.1 ((le_J jl_64 rfl (by decide) q1).mp hc)
      exact H.trans (rt_i jl_0 rfl)
    · replace H := H.2 (fun hz => hc ((le_J jl_64 rfl (by decide) q1).mpr hz))
      obtain ⟨q2, H⟩ := H
      refine ⟨inb_J rfl q2 (by decide), ?_⟩
      obtain ⟨q3, H⟩ := H
      refine ⟨fun hc => ?_, fun hc => ?_⟩
      · replace H := H.1 ((eq_J (rd_J (jf_base _ _) rfl q2 (by decide)) rfl q3 q1).mp hc)
        exact H.trans (rt_i jl_1 rfl)
      · replace H := H.2 (fun hz => hc ((eq_J (rd_J (jf_base _ _) rfl q2 (by decide)) rfl q3 q1).mpr hz))
        exact H.trans (rt_i jl_0 rfl)
def G5 (N : NM) (x1 : Int) : Int := (if x1 < 0 then 0 else (if (64 : Int) ≤ x1 then 0 else (if ((N 33) x1) = x1 then 1 else 0)))
def Q5 (N : NM) (x1 : Int) : Prop := ((R x1) ∧ ((x1 < 0 → True) ∧ (¬ x1 < 0 → (((64 : Int) ≤ x1 → True) ∧ (¬ (64 : Int) ≤ x1 → ((0 ≤ x1 ∧ x1 < 64) ∧ ((R ((N 33) x1)) ∧ ((((N 33) x1) = x1 → True) ∧ (¬ ((N 33) x1) = x1 → True)))))))))
theorem t5 {N : NM} {x1 : Int} (H : Q5 N x1) : F5 (jm N) (J x1) = J (G5 N x1) := by
  unfold Q5 at H
  unfold F5 G5
  obtain ⟨q1, H⟩ := H
  refine ite_J (lt_J rfl jl_0 q1 (by decide)) (fun hc => ?_) (fun hc => ?_)
  · replace H := H.1 ((lt_J rfl jl_0 q1 (by decide)).mp hc)
    exact jl_0
  · replace H := H.2 (fun hz => hc ((lt_J rfl jl_0 q1 (by decide)).mpr hz))
    refine ite_J (le_J jl_64 rfl (by decide) q1) (fun hc => ?_) (fun hc => ?_)
    · replace H := H.1 ((le_J jl_64 rfl (by decide) q1).mp hc)
      exact jl_0
    · replace H := H.2 (fun hz => hc ((le_J jl_64 rfl (by decide) q1).mpr hz))
      obtain ⟨q2, H⟩ := H
      obtain ⟨q3, H⟩ := H
      refine ite_J (eq_J (rd_J (jf_base _ _) rfl q2 (by decide)) rfl q3 q1) (fun hc => ?_) (fun hc => ?_)
      · replace H := H.1 ((eq_J (rd_J (jf_base _ _) rfl q2 (by decide)) rfl q3 q1).mp hc)
        exact jl_1
      · replace H := H.2 (fun hz => hc ((eq_J (rd_J (jf_base _ _) rfl q2 (by decide)) rfl q3 q1).mpr hz))
        exact jl_0
theorem p5 {N : NM} {x1 : Int} (H : Q5 N x1) : P5 (jm N) (J x1) := by
  unfold Q5 at H
  unfold P5
  obtain ⟨q1, H⟩ := H
  refine ⟨fun hc => ?_, fun hc => ?_⟩
  · replace H := H.1 ((lt_J rfl jl_0 q1 (by decide)).mp hc)
    trivial
  · replace H := H.2 (fun hz => hc ((lt_J rfl jl_0 q1 (by decide)).mpr hz))
    refine ⟨fun hc => ?_, fun hc => ?_⟩
    · replace H := H.1 ((le_J jl_64 rfl (by decide) q1).mp hc)
      trivial
    · replace H := H.2 (fun hz => hc ((le_J jl_64 rfl (by decide) q1).mpr hz))
      obtain ⟨q2, H⟩ := H
      exact inb_J rfl q2 (by decide)
theorem sz5 {E : gw_N} {N : NM} {x1 : Int} (H : Q5 N x1) : Rn 5 [.ref 32, .int (J x1)] (hs E (jm N)) (some (.int (J (G5 N x1)))) (hs E (jm N)) := by
  have h := s5 (E := E) (M := jm N) (x1 := J x1) (p5 H)
  rw [t5 H] at h
  exact h
-- 6 GlassWires$Cells fieldsOf (I)I
theorem v6_0 {E : gw_N} {N : NM} {res : Option Value × gw_H} {x1 : Int} (H : ((0 ≤ x1 ∧ x1 < 64) ∧ res = (some (.int (J ((N 34) x1))), hs E (jm N)))) : Ev 1 6 0 [some (.ref 32), some (.int (J x1))] [] (hs E (jm N)) res := by
  refine w6_0 ?_
  obtain ⟨q1, H⟩ := H
  refine ⟨inb_J rfl q1 (by decide), ?_⟩
  exact H.trans (rt_i (rd_J (jf_base _ _) rfl q1 (by decide)) rfl)
def G6 (N : NM) (x1 : Int) : Int := ((N 34) x1)
def Q6 (N : NM) (x1 : Int) : Prop := ((0 ≤ x1 ∧ x1 < 64) ∧ True)
theorem t6 {N : NM} {x1 : Int} (H : Q6 N x1) : F6 (jm N) (J x1) = J (G6 N x1) := by
  unfold Q6 at H
  unfold F6 G6
  obtain ⟨q1, H⟩ := H
  exact (rd_J (jf_base _ _) rfl q1 (by decide))
theorem p6 {N : NM} {x1 : Int} (H : Q6 N x1) : P6 (jm N) (J x1) := by
  unfold Q6 at H
  unfold P6
  obtain ⟨q1, H⟩ := H
  exact inb_J rfl q1 (by decide)
theorem sz6 {E : gw_N} {N : NM} {x1 : Int} (H : Q6 N x1) : Rn 6 [.ref 32, .int (J x1)] (hs E (jm N)) (some (.int (J (G6 N x1)))) (hs E (jm N)) := by
  have h := s6 (E := E) (M := jm N) (x1 := J x1) (p6 H)
  rw [t6 H] at h
  exact h
-- 10 GlassWires$Glass firings ()I
theorem v10_0 {E : gw_N} {N : NM} {res : Option Value × gw_H}  (H : res = (some (.int (J ((N 44) 9))), hs E (jm N))) : Ev 1 10 0 [some (.ref 44)] [] (hs E (jm N)) res := by
  refine w10_0 ?_
  exact H.trans (rt_i (fld_J (jf_base _ _)) rfl)
def G10 (N : NM) : Int := ((N 44) 9)
theorem t10 {N : NM} : F10 (jm N) = J (G10 N) := by
  have H : True := trivial
  unfold F10 G10
  exact (fld_J (jf_base _ _))
theorem sz10 {E : gw_N} {N : NM} : Rn 10 [.ref 44] (hs E (jm N)) (some (.int (J (G10 N)))) (hs E (jm N)) := by
  have h := s10 (E := E) (M := jm N)
  rw [t10] at h
  exact h
-- 11 GlassWires$Glass layersOn (I)I
theorem v11_0 {E : gw_N} {N : NM} {res : Option Value × gw_H} {x1 : Int} (H : ((0 ≤ x1 ∧ x1 < 64) ∧ res = (some (.int (J ((N 45) x1))), hs E (jm N)))) : Ev 1 11 0 [some (.ref 44), some (.int (J x1))] [] (hs E (jm N)) res := by
  refine w11_0 ?_
  obtain ⟨q1, H⟩ := H
  refine ⟨inb_J rfl q1 (by decide), ?_⟩
  exact H.trans (rt_i (rd_J (jf_base _ _) rfl q1 (by decide)) rfl)
def G11 (N : NM) (x1 : Int) : Int := ((N 45) x1)
def Q11 (N : NM) (x1 : Int) : Prop := ((0 ≤ x1 ∧ x1 < 64) ∧ True)
theorem t11 {N : NM} {x1 : Int} (H : Q11 N x1) : F11 (jm N) (J x1) = J (G11 N x1) := by
  unfold Q11 at H
  unfold F11 G11
  obtain ⟨q1, H⟩ := H
  exact (rd_J (jf_base _ _) rfl q1 (by decide))
theorem p11 {N : NM} {x1 : Int} (H : Q11 N x1) : P11 (jm N) (J x1) := by
  unfold Q11 at H
  unfold P11
  obtain ⟨q1, H⟩ := H
  exact inb_J rfl q1 (by decide)
theorem sz11 {E : gw_N} {N : NM} {x1 : Int} (H : Q11 N x1) : Rn 11 [.ref 44, .int (J x1)] (hs E (jm N)) (some (.int (J (G11 N x1)))) (hs E (jm N)) := by
  have h := s11 (E := E) (M := jm N) (x1 := J x1) (p11 H)
  rw [t11 H] at h
  exact h
-- 13 GlassWires$Glass high (I)I
theorem v13_0 {E : gw_N} {N : NM} {res : Option Value × gw_H} {x1 : Int} (H : Ev 1 13 4 [some (.ref 44), some (.int (J x1)), some (.int (J 0)), some (.int (J 0))] [] (hs E (jm N)) res) : Ev 1 13 0 [some (.ref 44), some (.int (J x1)), none, none] [] (hs E (jm N)) res := by
  refine w13_0 ?_
  exact Ev_to (clx (cli rfl (cli jl_0 (cli jl_0 rfl)))) rfl rfl H
theorem v13_4 {E : gw_N} {N : NM} {res : Option Value × gw_H} {x1 : Int} {x2 : Int} {x3 : Int} (H : ((0 ≤ x1 ∧ x1 < 64) ∧ ((R ((N 45) x1)) ∧ ((R x3) ∧ ((((N 45) x1) ≤ x3 → res = (some (.int (J x2)), hs E (jm N))) ∧ (¬ ((N 45) x1) ≤ x3 → ((0 ≤ ((12 * x1) + x3) ∧ ((12 * x1) + x3) < 768) ∧ Ev 1 13 4 [some (.ref 44), some (.int (J x1)), some (.int (J (x2 + ((N 47) ((12 * x1) + x3))))), some (.int (J (x3 + 1)))] [] (hs E (jm N)) res))))))) : Ev 1 13 4 [some (.ref 44), some (.int (J x1)), some (.int (J x2)), some (.int (J x3))] [] (hs E (jm N)) res := by
  refine w13_4 ?_
  obtain ⟨q1, H⟩ := H
  refine ⟨inb_J rfl q1 (by decide), ?_⟩
  obtain ⟨q2, q3, H⟩ := H
  refine ⟨fun hc => ?_, fun hc => ?_⟩
  · replace H := H.1 ((le_J (rd_J (jf_base _ _) rfl q1 (by decide)) rfl q2 q3).mp hc)
    exact H.trans (rt_i rfl rfl)
  · replace H := H.2 (fun hz => hc ((le_J (rd_J (jf_base _ _) rfl q1 (by decide)) rfl q2 q3).mpr hz))
    obtain ⟨q4, H⟩ := H
    refine ⟨inb_J (add_J (mul_J jl_12 rfl) rfl) q4 (by decide), ?_⟩
    exact Ev_to (clx (cli rfl (cli (add_J rfl (rd_J (jf_base _ _) (add_J (mul_J jl_12 rfl) rfl) q4 (by decide))) (cli (add_J rfl jl_1) rfl)))) rfl rfl H
-- 14 GlassWires$Glass aboutLayer (III)I
theorem v14_0 {E : gw_N} {N : NM} {res : Option Value × gw_H} {x1 : Int} {x2 : Int} {x3 : Int} (H : ((R x2) ∧ ((x2 < 0 → res = (some (.int (J (-1))), hs E (jm N))) ∧ (¬ x2 < 0 → ((0 ≤ x1 ∧ x1 < 64) ∧ ((R ((N 45) x1)) ∧ ((x2 < ((N 45) x1) → ((R x3) ∧ ((x3 = 0 → ((0 ≤ ((12 * x1) + x2) ∧ ((12 * x1) + x2) < 768) ∧ res = (some (.int (J ((N 46) ((12 * x1) + x2)))), hs E (jm N)))) ∧ (x3 = 1 → ((0 ≤ ((12 * x1) + x2) ∧ ((12 * x1) + x2) < 768) ∧ res = (some (.int (J ((N 47) ((12 * x1) + x2)))), hs E (jm N)))) ∧ (¬ x3 = 0 → ¬ x3 = 1 → ((0 ≤ ((12 * x1) + x2) ∧ ((12 * x1) + x2) < 768) ∧ res = (some (.int (J ((N 48) ((12 * x1) + x2)))), hs E (jm N))))))) ∧ (¬ x2 < ((N 45) x1) → res = (some (.int (J (-1))), hs E (jm N)))))))))) : Ev 1 14 0 [some (.ref 44), some (.int (J x1)), some (.int (J x2)), some (.int (J x3)), none] [] (hs E (jm N)) res := by
  refine w14_0 ?_
  obtain ⟨q1, H⟩ := H
  refine ⟨fun hc => ?_, fun hc => ?_⟩
  · replace H := H.1 ((lt_J rfl jl_0 q1 (by decide)).mp hc)
    exact H.trans (rt_i jl_m1 rfl)
  · replace H := H.2 (fun hz => hc ((lt_J rfl jl_0 q1 (by decide)).mpr hz))
    obtain ⟨q2, H⟩ := H
    refine ⟨inb_J rfl q2 (by decide), ?_⟩
    obtain ⟨q3, H⟩ := H
    refine ⟨fun hc => ?_, fun hc => ?_⟩
    · replace H := H.1 ((lt_J rfl (rd_J (jf_base _ _) rfl q2 (by decide)) q1 q3).mp hc)
      obtain ⟨q4, H⟩ := H
      refine ⟨fun hc => ?_, fun hc => ?_, fun hc0 hc1 => ?_⟩
      · replace H := (H.1) ((eq_J rfl jl_0 q4 (by decide)).mp hc)
        obtain ⟨q5, H⟩ := H
        refine ⟨inb_J (add_J (mul_J jl_12 rfl) rfl) q5 (by decide), ?_⟩
        exact H.trans (rt_i (rd_J (jf_base _ _) (add_J (mul_J jl_12 rfl) rfl) q5 (by decide)) rfl)
      · replace H := (H.2.1) ((eq_J rfl jl_1 q4 (by decide)).mp hc)
        obtain ⟨q6, H⟩ := H
        refine ⟨inb_J (add_J (mul_J jl_12 rfl) rfl) q6 (by decide), ?_⟩
        exact H.trans (rt_i (rd_J (jf_base _ _) (add_J (mul_J jl_12 rfl) rfl) q6 (by decide)) rfl)
      · replace H := (H.2.2) (fun hz => hc0 ((eq_J rfl jl_0 q4 (by decide)).mpr hz)) (fun hz => hc1 ((eq_J rfl jl_1 q4 (by decide)).mpr hz))
        obtain ⟨q7, H⟩ := H
        refine ⟨inb_J (add_J (mul_J jl_12 rfl) rfl) q7 (by decide), ?_⟩
        exact H.trans (rt_i (rd_J (jf_base _ _) (add_J (mul_J jl_12 rfl) rfl) q7 (by decide)) rfl)
    · replace H := H.2 (fun hz => hc ((lt_J rfl (rd_J (jf_base _ _) rfl q2 (by decide)) q1 q3).mpr hz))
      exact H.trans (rt_i jl_m1 rfl)
def G14 (N : NM) (x1 : Int) (x2 : Int) (x3 : Int) : Int := (if x2 < 0 then (-1) else (if x2 < ((N 45) x1) then (if x3 = 0 then ((N 46) ((12 * x1) + x2)) else (if x3 = 1 then ((N 47) ((12 * x1) + x2)) else ((N 48) ((12 * x1) + x2)))) else (-1)))
def Q14 (N : NM) (x1 : Int) (x2 : Int) (x3 : Int) : Prop := ((R x2) ∧ ((x2 < 0 → True) ∧ (¬ x2 < 0 → ((0 ≤ x1 ∧ x1 < 64) ∧ ((R ((N 45) x1)) ∧ ((x2 < ((N 45) x1) → ((R x3) ∧ ((x3 = 0 → ((0 ≤ ((12 * x1) + x2) ∧ ((12 * x1) + x2) < 768) ∧ True)) ∧ (¬ x3 = 0 → ((x3 = 1 → ((0 ≤ ((12 * x1) + x2) ∧ ((12 * x1) + x2) < 768) ∧ True)) ∧ (¬ x3 = 1 → ((0 ≤ ((12 * x1) + x2) ∧ ((12 * x1) + x2) < 768) ∧ True))))))) ∧ (¬ x2 < ((N 45) x1) → True)))))))
theorem t14 {N : NM} {x1 : Int} {x2 : Int} {x3 : Int} (H : Q14 N x1 x2 x3) : F14 (jm N) (J x1) (J x2) (J x3) = J (G14 N x1 x2 x3) := by
  unfold Q14 at H
  unfold F14 G14
  obtain ⟨q1, H⟩ := H
  refine ite_J (lt_J rfl jl_0 q1 (by decide)) (fun hc => ?_) (fun hc => ?_)
  · replace H := H.1 ((lt_J rfl jl_0 q1 (by decide)).mp hc)
    exact jl_m1
  · replace H := H.2 (fun hz => hc ((lt_J rfl jl_0 q1 (by decide)).mpr hz))
    obtain ⟨q2, H⟩ := H
    obtain ⟨q3, H⟩ := H
    refine ite_J (lt_J rfl (rd_J (jf_base _ _) rfl q2 (by decide)) q1 q3) (fun hc => ?_) (fun hc => ?_)
    · replace H := H.1 ((lt_J rfl (rd_J (jf_base _ _) rfl q2 (by decide)) q1 q3).mp hc)
      obtain ⟨q4, H⟩ := H
      refine ite_J (eq_J rfl jl_0 q4 (by decide)) (fun hc => ?_) (fun hc => ?_)
      · replace H := H.1 ((eq_J rfl jl_0 q4 (by decide)).mp hc)
        obtain ⟨q5, H⟩ := H
        exact (rd_J (jf_base _ _) (add_J (mul_J jl_12 rfl) rfl) q5 (by decide))
      · replace H := H.2 (fun hz => hc ((eq_J rfl jl_0 q4 (by decide)).mpr hz))
        refine ite_J (eq_J rfl jl_1 q4 (by decide)) (fun hc => ?_) (fun hc => ?_)
        · replace H := H.1 ((eq_J rfl jl_1 q4 (by decide)).mp hc)
          obtain ⟨q6, H⟩ := H
          exact (rd_J (jf_base _ _) (add_J (mul_J jl_12 rfl) rfl) q6 (by decide))
        · replace H := H.2 (fun hz => hc ((eq_J rfl jl_1 q4 (by decide)).mpr hz))
          obtain ⟨q7, H⟩ := H
          exact (rd_J (jf_base _ _) (add_J (mul_J jl_12 rfl) rfl) q7 (by decide))
    · replace H := H.2 (fun hz => hc ((lt_J rfl (rd_J (jf_base _ _) rfl q2 (by decide)) q1 q3).mpr hz))
      exact jl_m1
theorem p14 {N : NM} {x1 : Int} {x2 : Int} {x3 : Int} (H : Q14 N x1 x2 x3) : P14 (jm N) (J x1) (J x2) (J x3) := by
  unfold Q14 at H
  unfold P14
  obtain ⟨q1, H⟩ := H
  refine ⟨fun hc => ?_, fun hc => ?_⟩
  · replace H := H.1 ((lt_J rfl jl_0 q1 (by decide)).mp hc)
    trivial
  · replace H := H.2 (fun hz => hc ((lt_J rfl jl_0 q1 (by decide)).mpr hz))
    obtain ⟨q2, H⟩ := H
    refine ⟨inb_J rfl q2 (by decide), ?_⟩
    obtain ⟨q3, H⟩ := H
    refine ⟨fun hc => ?_, fun hc => ?_⟩
    · replace H := H.1 ((lt_J rfl (rd_J (jf_base _ _) rfl q2 (by decide)) q1 q3).mp hc)
      obtain ⟨q4, H⟩ := H
      refine ⟨fun hc => ?_, fun hc => ?_, fun hc0 hc1 => ?_⟩
      · have hz := (eq_J rfl jl_0 q4 (by decide)).mp hc
        replace H := H.1 hz
        obtain ⟨q5, H⟩ := H
        exact inb_J (add_J (mul_J jl_12 rfl) rfl) q5 (by decide)
      · have hz := (eq_J rfl jl_1 q4 (by decide)).mp hc
        replace H := H.2 (by omega)
        replace H := H.1 hz
        obtain ⟨q6, H⟩ := H
        exact inb_J (add_J (mul_J jl_12 rfl) rfl) q6 (by decide)
      · skip
        replace H := H.2 (fun hz => hc0 ((eq_J rfl jl_0 q4 (by decide)).mpr hz))
        replace H := H.2 (fun hz => hc1 ((eq_J rfl jl_1 q4 (by decide)).mpr hz))
        obtain ⟨q7, H⟩ := H
        exact inb_J (add_J (mul_J jl_12 rfl) rfl) q7 (by decide)
    · replace H := H.2 (fun hz => hc ((lt_J rfl (rd_J (jf_base _ _) rfl q2 (by decide)) q1 q3).mpr hz))
      trivial
theorem sz14 {E : gw_N} {N : NM} {x1 : Int} {x2 : Int} {x3 : Int} (H : Q14 N x1 x2 x3) : Rn 14 [.ref 44, .int (J x1), .int (J x2), .int (J x3)] (hs E (jm N)) (some (.int (J (G14 N x1 x2 x3)))) (hs E (jm N)) := by
  have h := s14 (E := E) (M := jm N) (x1 := J x1) (x2 := J x2) (x3 := J x3) (p14 H)
  rw [t14 H] at h
  exact h
-- 15 GlassWires$Glass upmost (I)I
theorem v15_0 {E : gw_N} {N : NM} {res : Option Value × gw_H} {x1 : Int} (H : ((0 ≤ x1 ∧ x1 < 64) ∧ ((R ((N 45) x1)) ∧ ((((N 45) x1) ≤ 0 → res = (some (.int (J (-1))), hs E (jm N))) ∧ (¬ ((N 45) x1) ≤ 0 → res = (some (.int (J (((12 * x1) + ((N 45) x1)) - 1))), hs E (jm N))))))) : Ev 1 15 0 [some (.ref 44), some (.int (J x1))] [] (hs E (jm N)) res := by
  refine w15_0 ?_
  obtain ⟨q1, H⟩ := H
  refine ⟨inb_J rfl q1 (by decide), ?_⟩
  obtain ⟨q2, H⟩ := H
  refine ⟨fun hc => ?_, fun hc => ?_⟩
  · replace H := H.1 ((le_J (rd_J (jf_base _ _) rfl q1 (by decide)) jl_0 q2 (by decide)).mp hc)
    exact H.trans (rt_i jl_m1 rfl)
  · replace H := H.2 (fun hz => hc ((le_J (rd_J (jf_base _ _) rfl q1 (by decide)) jl_0 q2 (by decide)).mpr hz))
    refine ⟨inb_J rfl q1 (by decide), ?_⟩
    exact H.trans (rt_i (sub_J (add_J (mul_J jl_12 rfl) (rd_J (jf_base _ _) rfl q1 (by decide))) jl_1) rfl)
def G15 (N : NM) (x1 : Int) : Int := (if ((N 45) x1) ≤ 0 then (-1) else (((12 * x1) + ((N 45) x1)) - 1))
def Q15 (N : NM) (x1 : Int) : Prop := ((0 ≤ x1 ∧ x1 < 64) ∧ ((R ((N 45) x1)) ∧ ((((N 45) x1) ≤ 0 → True) ∧ (¬ ((N 45) x1) ≤ 0 → True))))
theorem t15 {N : NM} {x1 : Int} (H : Q15 N x1) : F15 (jm N) (J x1) = J (G15 N x1) := by
  unfold Q15 at H
  unfold F15 G15
  obtain ⟨q1, H⟩ := H
  obtain ⟨q2, H⟩ := H
  refine ite_J (le_J (rd_J (jf_base _ _) rfl q1 (by decide)) jl_0 q2 (by decide)) (fun hc => ?_) (fun hc => ?_)
  · replace H := H.1 ((le_J (rd_J (jf_base _ _) rfl q1 (by decide)) jl_0 q2 (by decide)).mp hc)
    exact jl_m1
  · replace H := H.2 (fun hz => hc ((le_J (rd_J (jf_base _ _) rfl q1 (by decide)) jl_0 q2 (by decide)).mpr hz))
    exact (sub_J (add_J (mul_J jl_12 rfl) (rd_J (jf_base _ _) rfl q1 (by decide))) jl_1)
theorem p15 {N : NM} {x1 : Int} (H : Q15 N x1) : P15 (jm N) (J x1) := by
  unfold Q15 at H
  unfold P15
  obtain ⟨q1, H⟩ := H
  refine ⟨inb_J rfl q1 (by decide), ?_⟩
  obtain ⟨q2, H⟩ := H
  refine ⟨fun hc => ?_, fun hc => ?_⟩
  · replace H := H.1 ((le_J (rd_J (jf_base _ _) rfl q1 (by decide)) jl_0 q2 (by decide)).mp hc)
    trivial
  · replace H := H.2 (fun hz => hc ((le_J (rd_J (jf_base _ _) rfl q1 (by decide)) jl_0 q2 (by decide)).mpr hz))
    exact inb_J rfl q1 (by decide)
theorem sz15 {E : gw_N} {N : NM} {x1 : Int} (H : Q15 N x1) : Rn 15 [.ref 44, .int (J x1)] (hs E (jm N)) (some (.int (J (G15 N x1)))) (hs E (jm N)) := by
  have h := s15 (E := E) (M := jm N) (x1 := J x1) (p15 H)
  rw [t15 H] at h
  exact h
-- 36 GlassWires$Grid allows (I)Z
theorem v36_0 {E : gw_N} {N : NM} {res : Option Value × gw_H} {x0 : Int} (H : ((R x0) ∧ ((x0 < 2 → res = (some (.int (J 0)), hs E (jm N))) ∧ (¬ x0 < 2 → (((8 : Int) < x0 → res = (some (.int (J 0)), hs E (jm N))) ∧ (¬ (8 : Int) < x0 → res = (some (.int (J 1)), hs E (jm N)))))))) : Ev 1 36 0 [some (.int (J x0))] [] (hs E (jm N)) res := by
  refine w36_0 ?_
  obtain ⟨q1, H⟩ := H
  refine ⟨fun hc => ?_, fun hc => ?_⟩
  · replace H := H.1 ((lt_J rfl jl_2 q1 (by decide)).mp hc)
    exact H.trans (rt_i jl_0 rfl)
  · replace H := H.2 (fun hz => hc ((lt_J rfl jl_2 q1 (by decide)).mpr hz))
    refine ⟨fun hc => ?_, fun hc => ?_⟩
    · replace H := H.1 ((lt_J jl_8 rfl (by decide) q1).mp hc)
      exact H.trans (rt_i jl_0 rfl)
    · replace H := H.2 (fun hz => hc ((lt_J jl_8 rfl (by decide) q1).mpr hz))
      exact H.trans (rt_i jl_1 rfl)
def G36 (N : NM) (x0 : Int) : Int := (if x0 < 2 then 0 else (if (8 : Int) < x0 then 0 else 1))
def Q36 (N : NM) (x0 : Int) : Prop := ((R x0) ∧ ((x0 < 2 → True) ∧ (¬ x0 < 2 → (((8 : Int) < x0 → True) ∧ (¬ (8 : Int) < x0 → True)))))
theorem t36 {N : NM} {x0 : Int} (H : Q36 N x0) : F36 (jm N) (J x0) = J (G36 N x0) := by
  unfold Q36 at H
  unfold F36 G36
  obtain ⟨q1, H⟩ := H
  refine ite_J (lt_J rfl jl_2 q1 (by decide)) (fun hc => ?_) (fun hc => ?_)
  · replace H := H.1 ((lt_J rfl jl_2 q1 (by decide)).mp hc)
    exact jl_0
  · replace H := H.2 (fun hz => hc ((lt_J rfl jl_2 q1 (by decide)).mpr hz))
    refine ite_J (lt_J jl_8 rfl (by decide) q1) (fun hc => ?_) (fun hc => ?_)
    · replace H := H.1 ((lt_J jl_8 rfl (by decide) q1).mp hc)
      exact jl_0
    · replace H := H.2 (fun hz => hc ((lt_J jl_8 rfl (by decide) q1).mpr hz))
      exact jl_1
theorem sz36 {E : gw_N} {N : NM} {x0 : Int} (H : Q36 N x0) : Rn 36 [.int (J x0)] (hs E (jm N)) (some (.int (J (G36 N x0)))) (hs E (jm N)) := by
  have h := s36 (E := E) (M := jm N) (x0 := J x0)
  rw [t36 H] at h
  exact h
-- 37 GlassWires$Grid resize (II)V
theorem v37_0 {E : gw_N} {N : NM} {res : Option Value × gw_H} {x1 : Int} {x2 : Int} (H : Ev 1 37 12 [some (.ref 9), some (.int (J x1)), some (.int (J x2)), some (.int (J 0)), none] [] (hs E (jm (upZ N 9 (updZ (updZ (N 9) 2 x1) 3 x2)))) res) : Ev 1 37 0 [some (.ref 9), some (.int (J x1)), some (.int (J x2)), none, none] [] (hs E (jm N)) res := by
  refine w37_0 ?_
  exact Ev_to (clx (cli rfl (cli rfl (cli jl_0 (clx rfl))))) rfl (jm_up rfl (jf_updk (jf_updk (jf_base _ _) rfl) rfl)) H
theorem v37_12 {E : gw_N} {N : NM} {res : Option Value × gw_H} {x1 : Int} {x2 : Int} {x3 : Int} (H : ((R x2) ∧ ((R x3) ∧ ((x2 ≤ x3 → res = (none, hs E (jm N))) ∧ (¬ x2 ≤ x3 → (((8 : Int) ≤ x3 → res = (none, hs E (jm N))) ∧ (¬ (8 : Int) ≤ x3 → Ev 1 37 26 [some (.ref 9), some (.int (J x1)), some (.int (J x2)), some (.int (J x3)), some (.int (J 0))] [] (hs E (jm N)) res))))))) : Ev 1 37 12 [some (.ref 9), some (.int (J x1)), some (.int (J x2)), some (.int (J x3)), none] [] (hs E (jm N)) res := by
  refine w37_12 ?_
  obtain ⟨q1, q2, H⟩ := H
  refine ⟨fun hc => ?_, fun hc => ?_⟩
  · replace H := H.1 ((le_J rfl rfl q1 q2).mp hc)
    exact H.trans (rt_n rfl)
  · replace H := H.2 (fun hz => hc ((le_J rfl rfl q1 q2).mpr hz))
    refine ⟨fun hc => ?_, fun hc => ?_⟩
    · replace H := H.1 ((le_J jl_8 rfl (by decide) q2).mp hc)
      exact H.trans (rt_n rfl)
    · replace H := H.2 (fun hz => hc ((le_J jl_8 rfl (by decide) q2).mpr hz))
      exact Ev_to (clx (cli rfl (cli rfl (cli rfl (cli jl_0 rfl))))) rfl rfl H
theorem v37_26 {E : gw_N} {N : NM} {res : Option Value × gw_H} {x1 : Int} {x2 : Int} {x3 : Int} {x4 : Int} (H : ((R x1) ∧ ((R x4) ∧ ((x1 ≤ x4 → Ev 1 37 12 [some (.ref 9), some (.int (J x1)), some (.int (J x2)), some (.int (J (x3 + 1))), none] [] (hs E (jm N)) res) ∧ (¬ x1 ≤ x4 → (((8 : Int) ≤ x4 → Ev 1 37 12 [some (.ref 9), some (.int (J x1)), some (.int (J x2)), some (.int (J (x3 + 1))), none] [] (hs E (jm N)) res) ∧ (¬ (8 : Int) ≤ x4 → ((0 ≤ ((x1 * x3) + x4) ∧ ((x1 * x3) + x4) < 64) ∧ Ev 1 37 26 [some (.ref 9), some (.int (J x1)), some (.int (J x2)), some (.int (J x3)), some (.int (J (x4 + 1)))] [] (hs E (jm (upZ (upZ N 10 (updZ (N 10) ((x1 * x3) + x4) x4)) 11 (updZ (N 11) ((x1 * x3) + x4) x3)))) res)))))))) : Ev 1 37 26 [some (.ref 9), some (.int (J x1)), some (.int (J x2)), some (.int (J x3)), some (.int (J x4))] [] (hs E (jm N)) res := by
  refine w37_26 ?_
  obtain ⟨q1, q2, H⟩ := H
  refine ⟨fun hc => ?_, fun hc => ?_⟩
  · replace H := H.1 ((le_J rfl rfl q1 q2).mp hc)
    exact Ev_to (clx (cli rfl (cli rfl (cli (add_J rfl jl_1) (clx rfl))))) rfl rfl H
  · replace H := H.2 (fun hz => hc ((le_J rfl rfl q1 q2).mpr hz))
    refine ⟨fun hc => ?_, fun hc => ?_⟩
    · replace H := H.1 ((le_J jl_8 rfl (by decide) q2).mp hc)
      exact Ev_to (clx (cli rfl (cli rfl (cli (add_J rfl jl_1) (clx rfl))))) rfl rfl H
    · replace H := H.2 (fun hz => hc ((le_J jl_8 rfl (by decide) q2).mpr hz))
      obtain ⟨q3, H⟩ := H
      refine ⟨inb_J (add_J (mul_J rfl rfl) rfl) q3 (by decide), ?_⟩
      refine ⟨inb_J (add_J (mul_J rfl rfl) rfl) q3 (by decide), ?_⟩
      exact Ev_to (clx (cli rfl (cli rfl (cli rfl (cli (add_J rfl jl_1) rfl))))) rfl (jm_up (jm_up rfl (jf_upd (jf_base _ _) (add_J (mul_J rfl rfl) rfl) q3 (by decide) rfl)) (jf_upd (jf_base _ _) (add_J (mul_J rfl rfl) rfl) q3 (by decide) rfl)) H
-- 38 GlassWires$Grid wide ()I
theorem v38_0 {E : gw_N} {N : NM} {res : Option Value × gw_H}  (H : res = (some (.int (J ((N 9) 2))), hs E (jm N))) : Ev 1 38 0 [some (.ref 9)] [] (hs E (jm N)) res := by
  refine w38_0 ?_
  exact H.trans (rt_i (fld_J (jf_base _ _)) rfl)
def G38 (N : NM) : Int := ((N 9) 2)
theorem t38 {N : NM} : F38 (jm N) = J (G38 N) := by
  have H : True := trivial
  unfold F38 G38
  exact (fld_J (jf_base _ _))
theorem sz38 {E : gw_N} {N : NM} : Rn 38 [.ref 9] (hs E (jm N)) (some (.int (J (G38 N)))) (hs E (jm N)) := by
  have h := s38 (E := E) (M := jm N)
  rw [t38] at h
  exact h
-- 39 GlassWires$Grid high ()I
theorem v39_0 {E : gw_N} {N : NM} {res : Option Value × gw_H}  (H : res = (some (.int (J ((N 9) 3))), hs E (jm N))) : Ev 1 39 0 [some (.ref 9)] [] (hs E (jm N)) res := by
  refine w39_0 ?_
  exact H.trans (rt_i (fld_J (jf_base _ _)) rfl)
def G39 (N : NM) : Int := ((N 9) 3)
theorem t39 {N : NM} : F39 (jm N) = J (G39 N) := by
  have H : True := trivial
  unfold F39 G39
  exact (fld_J (jf_base _ _))
theorem sz39 {E : gw_N} {N : NM} : Rn 39 [.ref 9] (hs E (jm N)) (some (.int (J (G39 N)))) (hs E (jm N)) := by
  have h := s39 (E := E) (M := jm N)
  rw [t39] at h
  exact h
-- 40 GlassWires$Grid fields ()I
theorem v40_0 {E : gw_N} {N : NM} {res : Option Value × gw_H}  (H : res = (some (.int (J (((N 9) 2) * ((N 9) 3)))), hs E (jm N))) : Ev 1 40 0 [some (.ref 9)] [] (hs E (jm N)) res := by
  refine w40_0 ?_
  exact H.trans (rt_i (mul_J (fld_J (jf_base _ _)) (fld_J (jf_base _ _))) rfl)
def G40 (N : NM) : Int := (((N 9) 2) * ((N 9) 3))
theorem t40 {N : NM} : F40 (jm N) = J (G40 N) := by
  have H : True := trivial
  unfold F40 G40
  exact (mul_J (fld_J (jf_base _ _)) (fld_J (jf_base _ _)))
theorem sz40 {E : gw_N} {N : NM} : Rn 40 [.ref 9] (hs E (jm N)) (some (.int (J (G40 N)))) (hs E (jm N)) := by
  have h := s40 (E := E) (M := jm N)
  rw [t40] at h
  exact h
-- 41 GlassWires$Grid hasPoint (II)Z
theorem v41_0 {E : gw_N} {N : NM} {res : Option Value × gw_H} {x1 : Int} {x2 : Int} (H : ((R x1) ∧ ((x1 < 0 → res = (some (.int (J 0)), hs E (jm N))) ∧ (¬ x1 < 0 → ((R ((N 9) 2)) ∧ ((((N 9) 2) < x1 → res = (some (.int (J 0)), hs E (jm N))) ∧ (¬ ((N 9) 2) < x1 → ((R x2) ∧ ((x2 < 0 → res = (some (.int (J 0)), hs E (jm N))) ∧ (¬ x2 < 0 → ((R ((N 9) 3)) ∧ ((((N 9) 3) < x2 → res = (some (.int (J 0)), hs E (jm N))) ∧ (¬ ((N 9) 3) < x2 → res = (some (.int (J 1)), hs E (jm N))))))))))))))) : Ev 1 41 0 [some (.ref 9), some (.int (J x1)), some (.int (J x2))] [] (hs E (jm N)) res := by
  refine w41_0 ?_
  obtain ⟨q1, H⟩ := H
  refine ⟨fun hc => ?_, fun hc => ?_⟩
  · replace H := H.1 ((lt_J rfl jl_0 q1 (by decide)).mp hc)
    exact H.trans (rt_i jl_0 rfl)
  · replace H := H.2 (fun hz => hc ((lt_J rfl jl_0 q1 (by decide)).mpr hz))
    obtain ⟨q2, H⟩ := H
    refine ⟨fun hc => ?_, fun hc => ?_⟩
    · replace H := H.1 ((lt_J (fld_J (jf_base _ _)) rfl q2 q1).mp hc)
      exact H.trans (rt_i jl_0 rfl)
    · replace H := H.2 (fun hz => hc ((lt_J (fld_J (jf_base _ _)) rfl q2 q1).mpr hz))
      obtain ⟨q3, H⟩ := H
      refine ⟨fun hc => ?_, fun hc => ?_⟩
      · replace H := H.1 ((lt_J rfl jl_0 q3 (by decide)).mp hc)
        exact H.trans (rt_i jl_0 rfl)
      · replace H := H.2 (fun hz => hc ((lt_J rfl jl_0 q3 (by decide)).mpr hz))
        obtain ⟨q4, H⟩ := H
        refine ⟨fun hc => ?_, fun hc => ?_⟩
        · replace H := H.1 ((lt_J (fld_J (jf_base _ _)) rfl q4 q3).mp hc)
          exact H.trans (rt_i jl_0 rfl)
        · replace H := H.2 (fun hz => hc ((lt_J (fld_J (jf_base _ _)) rfl q4 q3).mpr hz))
          exact H.trans (rt_i jl_1 rfl)
def G41 (N : NM) (x1 : Int) (x2 : Int) : Int := (if x1 < 0 then 0 else (if ((N 9) 2) < x1 then 0 else (if x2 < 0 then 0 else (if ((N 9) 3) < x2 then 0 else 1))))
def Q41 (N : NM) (x1 : Int) (x2 : Int) : Prop := ((R x1) ∧ ((x1 < 0 → True) ∧ (¬ x1 < 0 → ((R ((N 9) 2)) ∧ ((((N 9) 2) < x1 → True) ∧ (¬ ((N 9) 2) < x1 → ((R x2) ∧ ((x2 < 0 → True) ∧ (¬ x2 < 0 → ((R ((N 9) 3)) ∧ ((((N 9) 3) < x2 → True) ∧ (¬ ((N 9) 3) < x2 → True))))))))))))
theorem t41 {N : NM} {x1 : Int} {x2 : Int} (H : Q41 N x1 x2) : F41 (jm N) (J x1) (J x2) = J (G41 N x1 x2) := by
  unfold Q41 at H
  unfold F41 G41
  obtain ⟨q1, H⟩ := H
  refine ite_J (lt_J rfl jl_0 q1 (by decide)) (fun hc => ?_) (fun hc => ?_)
  · replace H := H.1 ((lt_J rfl jl_0 q1 (by decide)).mp hc)
    exact jl_0
  · replace H := H.2 (fun hz => hc ((lt_J rfl jl_0 q1 (by decide)).mpr hz))
    obtain ⟨q2, H⟩ := H
    refine ite_J (lt_J (fld_J (jf_base _ _)) rfl q2 q1) (fun hc => ?_) (fun hc => ?_)
    · replace H := H.1 ((lt_J (fld_J (jf_base _ _)) rfl q2 q1).mp hc)
      exact jl_0
    · replace H := H.2 (fun hz => hc ((lt_J (fld_J (jf_base _ _)) rfl q2 q1).mpr hz))
      obtain ⟨q3, H⟩ := H
      refine ite_J (lt_J rfl jl_0 q3 (by decide)) (fun hc => ?_) (fun hc => ?_)
      · replace H := H.1 ((lt_J rfl jl_0 q3 (by decide)).mp hc)
        exact jl_0
      · replace H := H.2 (fun hz => hc ((lt_J rfl jl_0 q3 (by decide)).mpr hz))
        obtain ⟨q4, H⟩ := H
        refine ite_J (lt_J (fld_J (jf_base _ _)) rfl q4 q3) (fun hc => ?_) (fun hc => ?_)
        · replace H := H.1 ((lt_J (fld_J (jf_base _ _)) rfl q4 q3).mp hc)
          exact jl_0
        · replace H := H.2 (fun hz => hc ((lt_J (fld_J (jf_base _ _)) rfl q4 q3).mpr hz))
          exact jl_1
theorem sz41 {E : gw_N} {N : NM} {x1 : Int} {x2 : Int} (H : Q41 N x1 x2) : Rn 41 [.ref 9, .int (J x1), .int (J x2)] (hs E (jm N)) (some (.int (J (G41 N x1 x2)))) (hs E (jm N)) := by
  have h := s41 (E := E) (M := jm N) (x1 := J x1) (x2 := J x2)
  rw [t41 H] at h
  exact h
-- 42 GlassWires$Grid isAtRim (II)Z
theorem v42_0 {E : gw_N} {N : NM} {res : Option Value × gw_H} {x1 : Int} {x2 : Int} (H : ((R x1) ∧ ((x1 = 0 → res = (some (.int (J 1)), hs E (jm N))) ∧ (¬ x1 = 0 → ((R ((N 9) 2)) ∧ ((x1 = ((N 9) 2) → res = (some (.int (J 1)), hs E (jm N))) ∧ (¬ x1 = ((N 9) 2) → ((R x2) ∧ ((x2 = 0 → res = (some (.int (J 1)), hs E (jm N))) ∧ (¬ x2 = 0 → ((R ((N 9) 3)) ∧ ((x2 = ((N 9) 3) → res = (some (.int (J 1)), hs E (jm N))) ∧ (¬ x2 = ((N 9) 3) → res = (some (.int (J 0)), hs E (jm N))))))))))))))) : Ev 1 42 0 [some (.ref 9), some (.int (J x1)), some (.int (J x2))] [] (hs E (jm N)) res := by
  refine w42_0 ?_
  obtain ⟨q1, H⟩ := H
  refine ⟨fun hc => ?_, fun hc => ?_⟩
  · replace H := H.1 ((eq_J rfl jl_0 q1 (by decide)).mp hc)
    exact H.trans (rt_i jl_1 rfl)
  · replace H := H.2 (fun hz => hc ((eq_J rfl jl_0 q1 (by decide)).mpr hz))
    obtain ⟨q2, H⟩ := H
    refine ⟨fun hc => ?_, fun hc => ?_⟩
    · replace H := H.1 ((eq_J rfl (fld_J (jf_base _ _)) q1 q2).mp hc)
      exact H.trans (rt_i jl_1 rfl)
    · replace H := H.2 (fun hz => hc ((eq_J rfl (fld_J (jf_base _ _)) q1 q2).mpr hz))
      obtain ⟨q3, H⟩ := H
      refine ⟨fun hc => ?_, fun hc => ?_⟩
      · replace H := H.1 ((eq_J rfl jl_0 q3 (by decide)).mp hc)
        exact H.trans (rt_i jl_1 rfl)
      · replace H := H.2 (fun hz => hc ((eq_J rfl jl_0 q3 (by decide)).mpr hz))
        obtain ⟨q4, H⟩ := H
        refine ⟨fun hc => ?_, fun hc => ?_⟩
        · replace H := H.1 ((eq_J rfl (fld_J (jf_base _ _)) q3 q4).mp hc)
          exact H.trans (rt_i jl_1 rfl)
        · replace H := H.2 (fun hz => hc ((eq_J rfl (fld_J (jf_base _ _)) q3 q4).mpr hz))
          exact H.trans (rt_i jl_0 rfl)
def G42 (N : NM) (x1 : Int) (x2 : Int) : Int := (if x1 = 0 then 1 else (if x1 = ((N 9) 2) then 1 else (if x2 = 0 then 1 else (if x2 = ((N 9) 3) then 1 else 0))))
def Q42 (N : NM) (x1 : Int) (x2 : Int) : Prop := ((R x1) ∧ ((x1 = 0 → True) ∧ (¬ x1 = 0 → ((R ((N 9) 2)) ∧ ((x1 = ((N 9) 2) → True) ∧ (¬ x1 = ((N 9) 2) → ((R x2) ∧ ((x2 = 0 → True) ∧ (¬ x2 = 0 → ((R ((N 9) 3)) ∧ ((x2 = ((N 9) 3) → True) ∧ (¬ x2 = ((N 9) 3) → True))))))))))))
theorem t42 {N : NM} {x1 : Int} {x2 : Int} (H : Q42 N x1 x2) : F42 (jm N) (J x1) (J x2) = J (G42 N x1 x2) := by
  unfold Q42 at H
  unfold F42 G42
  obtain ⟨q1, H⟩ := H
  refine ite_J (eq_J rfl jl_0 q1 (by decide)) (fun hc => ?_) (fun hc => ?_)
  · replace H := H.1 ((eq_J rfl jl_0 q1 (by decide)).mp hc)
    exact jl_1
  · replace H := H.2 (fun hz => hc ((eq_J rfl jl_0 q1 (by decide)).mpr hz))
    obtain ⟨q2, H⟩ := H
    refine ite_J (eq_J rfl (fld_J (jf_base _ _)) q1 q2) (fun hc => ?_) (fun hc => ?_)
    · replace H := H.1 ((eq_J rfl (fld_J (jf_base _ _)) q1 q2).mp hc)
      exact jl_1
    · replace H := H.2 (fun hz => hc ((eq_J rfl (fld_J (jf_base _ _)) q1 q2).mpr hz))
      obtain ⟨q3, H⟩ := H
      refine ite_J (eq_J rfl jl_0 q3 (by decide)) (fun hc => ?_) (fun hc => ?_)
      · replace H := H.1 ((eq_J rfl jl_0 q3 (by decide)).mp hc)
        exact jl_1
      · replace H := H.2 (fun hz => hc ((eq_J rfl jl_0 q3 (by decide)).mpr hz))
        obtain ⟨q4, H⟩ := H
        refine ite_J (eq_J rfl (fld_J (jf_base _ _)) q3 q4) (fun hc => ?_) (fun hc => ?_)
        · replace H := H.1 ((eq_J rfl (fld_J (jf_base _ _)) q3 q4).mp hc)
          exact jl_1
        · replace H := H.2 (fun hz => hc ((eq_J rfl (fld_J (jf_base _ _)) q3 q4).mpr hz))
          exact jl_0
theorem sz42 {E : gw_N} {N : NM} {x1 : Int} {x2 : Int} (H : Q42 N x1 x2) : Rn 42 [.ref 9, .int (J x1), .int (J x2)] (hs E (jm N)) (some (.int (J (G42 N x1 x2)))) (hs E (jm N)) := by
  have h := s42 (E := E) (M := jm N) (x1 := J x1) (x2 := J x2)
  rw [t42 H] at h
  exact h
-- 43 GlassWires$Grid hasField (II)Z
theorem v43_0 {E : gw_N} {N : NM} {res : Option Value × gw_H} {x1 : Int} {x2 : Int} (H : ((R x1) ∧ ((x1 < 0 → res = (some (.int (J 0)), hs E (jm N))) ∧ (¬ x1 < 0 → ((R ((N 9) 2)) ∧ ((((N 9) 2) ≤ x1 → res = (some (.int (J 0)), hs E (jm N))) ∧ (¬ ((N 9) 2) ≤ x1 → ((R x2) ∧ ((x2 < 0 → res = (some (.int (J 0)), hs E (jm N))) ∧ (¬ x2 < 0 → ((R ((N 9) 3)) ∧ ((((N 9) 3) ≤ x2 → res = (some (.int (J 0)), hs E (jm N))) ∧ (¬ ((N 9) 3) ≤ x2 → res = (some (.int (J 1)), hs E (jm N))))))))))))))) : Ev 1 43 0 [some (.ref 9), some (.int (J x1)), some (.int (J x2))] [] (hs E (jm N)) res := by
  refine w43_0 ?_
  obtain ⟨q1, H⟩ := H
  refine ⟨fun hc => ?_, fun hc => ?_⟩
  · replace H := H.1 ((lt_J rfl jl_0 q1 (by decide)).mp hc)
    exact H.trans (rt_i jl_0 rfl)
  · replace H := H.2 (fun hz => hc ((lt_J rfl jl_0 q1 (by decide)).mpr hz))
    obtain ⟨q2, H⟩ := H
    refine ⟨fun hc => ?_, fun hc => ?_⟩
    · replace H := H.1 ((le_J (fld_J (jf_base _ _)) rfl q2 q1).mp hc)
      exact H.trans (rt_i jl_0 rfl)
    · replace H := H.2 (fun hz => hc ((le_J (fld_J (jf_base _ _)) rfl q2 q1).mpr hz))
      obtain ⟨q3, H⟩ := H
      refine ⟨fun hc => ?_, fun hc => ?_⟩
      · replace H := H.1 ((lt_J rfl jl_0 q3 (by decide)).mp hc)
        exact H.trans (rt_i jl_0 rfl)
      · replace H := H.2 (fun hz => hc ((lt_J rfl jl_0 q3 (by decide)).mpr hz))
        obtain ⟨q4, H⟩ := H
        refine ⟨fun hc => ?_, fun hc => ?_⟩
        · replace H := H.1 ((le_J (fld_J (jf_base _ _)) rfl q4 q3).mp hc)
          exact H.trans (rt_i jl_0 rfl)
        · replace H := H.2 (fun hz => hc ((le_J (fld_J (jf_base _ _)) rfl q4 q3).mpr hz))
          exact H.trans (rt_i jl_1 rfl)
def G43 (N : NM) (x1 : Int) (x2 : Int) : Int := (if x1 < 0 then 0 else (if ((N 9) 2) ≤ x1 then 0 else (if x2 < 0 then 0 else (if ((N 9) 3) ≤ x2 then 0 else 1))))
def Q43 (N : NM) (x1 : Int) (x2 : Int) : Prop := ((R x1) ∧ ((x1 < 0 → True) ∧ (¬ x1 < 0 → ((R ((N 9) 2)) ∧ ((((N 9) 2) ≤ x1 → True) ∧ (¬ ((N 9) 2) ≤ x1 → ((R x2) ∧ ((x2 < 0 → True) ∧ (¬ x2 < 0 → ((R ((N 9) 3)) ∧ ((((N 9) 3) ≤ x2 → True) ∧ (¬ ((N 9) 3) ≤ x2 → True))))))))))))
theorem t43 {N : NM} {x1 : Int} {x2 : Int} (H : Q43 N x1 x2) : F43 (jm N) (J x1) (J x2) = J (G43 N x1 x2) := by
  unfold Q43 at H
  unfold F43 G43
  obtain ⟨q1, H⟩ := H
  refine ite_J (lt_J rfl jl_0 q1 (by decide)) (fun hc => ?_) (fun hc => ?_)
  · replace H := H.1 ((lt_J rfl jl_0 q1 (by decide)).mp hc)
    exact jl_0
  · replace H := H.2 (fun hz => hc ((lt_J rfl jl_0 q1 (by decide)).mpr hz))
    obtain ⟨q2, H⟩ := H
    refine ite_J (le_J (fld_J (jf_base _ _)) rfl q2 q1) (fun hc => ?_) (fun hc => ?_)
    · replace H := H.1 ((le_J (fld_J (jf_base _ _)) rfl q2 q1).mp hc)
      exact jl_0
    · replace H := H.2 (fun hz => hc ((le_J (fld_J (jf_base _ _)) rfl q2 q1).mpr hz))
      obtain ⟨q3, H⟩ := H
      refine ite_J (lt_J rfl jl_0 q3 (by decide)) (fun hc => ?_) (fun hc => ?_)
      · replace H := H.1 ((lt_J rfl jl_0 q3 (by decide)).mp hc)
        exact jl_0
      · replace H := H.2 (fun hz => hc ((lt_J rfl jl_0 q3 (by decide)).mpr hz))
        obtain ⟨q4, H⟩ := H
        refine ite_J (le_J (fld_J (jf_base _ _)) rfl q4 q3) (fun hc => ?_) (fun hc => ?_)
        · replace H := H.1 ((le_J (fld_J (jf_base _ _)) rfl q4 q3).mp hc)
          exact jl_0
        · replace H := H.2 (fun hz => hc ((le_J (fld_J (jf_base _ _)) rfl q4 q3).mpr hz))
          exact jl_1
theorem sz43 {E : gw_N} {N : NM} {x1 : Int} {x2 : Int} (H : Q43 N x1 x2) : Rn 43 [.ref 9, .int (J x1), .int (J x2)] (hs E (jm N)) (some (.int (J (G43 N x1 x2)))) (hs E (jm N)) := by
  have h := s43 (E := E) (M := jm N) (x1 := J x1) (x2 := J x2)
  rw [t43 H] at h
  exact h
-- 45 GlassWires$Grid fieldNumber (II)I
theorem v45_0 {E : gw_N} {N : NM} {res : Option Value × gw_H} {x1 : Int} {x2 : Int} (H : res = (some (.int (J ((((N 9) 2) * x2) + x1))), hs E (jm N))) : Ev 1 45 0 [some (.ref 9), some (.int (J x1)), some (.int (J x2))] [] (hs E (jm N)) res := by
  refine w45_0 ?_
  exact H.trans (rt_i (add_J (mul_J (fld_J (jf_base _ _)) rfl) rfl) rfl)
def G45 (N : NM) (x1 : Int) (x2 : Int) : Int := ((((N 9) 2) * x2) + x1)
theorem t45 {N : NM} {x1 : Int} {x2 : Int} : F45 (jm N) (J x1) (J x2) = J (G45 N x1 x2) := by
  have H : True := trivial
  unfold F45 G45
  exact (add_J (mul_J (fld_J (jf_base _ _)) rfl) rfl)
theorem sz45 {E : gw_N} {N : NM} {x1 : Int} {x2 : Int} : Rn 45 [.ref 9, .int (J x1), .int (J x2)] (hs E (jm N)) (some (.int (J (G45 N x1 x2)))) (hs E (jm N)) := by
  have h := s45 (E := E) (M := jm N) (x1 := J x1) (x2 := J x2)
  rw [t45] at h
  exact h
-- 48 GlassWires$Grid pointNumber (II)I
theorem v48_0 {E : gw_N} {N : NM} {res : Option Value × gw_H} {x0 : Int} {x1 : Int} (H : res = (some (.int (J ((10 * x1) + x0))), hs E (jm N))) : Ev 1 48 0 [some (.int (J x0)), some (.int (J x1))] [] (hs E (jm N)) res := by
  refine w48_0 ?_
  exact H.trans (rt_i (add_J (mul_J jl_10 rfl) rfl) rfl)
def G48 (N : NM) (x0 : Int) (x1 : Int) : Int := ((10 * x1) + x0)
theorem t48 {N : NM} {x0 : Int} {x1 : Int} : F48 (jm N) (J x0) (J x1) = J (G48 N x0 x1) := by
  have H : True := trivial
  unfold F48 G48
  exact (add_J (mul_J jl_10 rfl) rfl)
theorem sz48 {E : gw_N} {N : NM} {x0 : Int} {x1 : Int} : Rn 48 [.int (J x0), .int (J x1)] (hs E (jm N)) (some (.int (J (G48 N x0 x1)))) (hs E (jm N)) := by
  have h := s48 (E := E) (M := jm N) (x0 := J x0) (x1 := J x1)
  rw [t48] at h
  exact h
-- 49 GlassWires$Grid columnOf (I)I
theorem v49_0 {E : gw_N} {N : NM} {res : Option Value × gw_H} {x0 : Int} (H : ((R x0) ∧ res = (some (.int (J (Int.tmod x0 10))), hs E (jm N)))) : Ev 1 49 0 [some (.int (J x0))] [] (hs E (jm N)) res := by
  refine w49_0 ?_
  obtain ⟨q1, H⟩ := H
  exact H.trans (rt_i (rem_J rfl jl_10 q1 (by decide) (by decide)) rfl)
def G49 (N : NM) (x0 : Int) : Int := (Int.tmod x0 10)
def Q49 (N : NM) (x0 : Int) : Prop := ((R x0) ∧ True)
theorem t49 {N : NM} {x0 : Int} (H : Q49 N x0) : F49 (jm N) (J x0) = J (G49 N x0) := by
  unfold Q49 at H
  unfold F49 G49
  obtain ⟨q1, H⟩ := H
  exact (rem_J rfl jl_10 q1 (by decide) (by decide))
theorem sz49 {E : gw_N} {N : NM} {x0 : Int} (H : Q49 N x0) : Rn 49 [.int (J x0)] (hs E (jm N)) (some (.int (J (G49 N x0)))) (hs E (jm N)) := by
  have h := s49 (E := E) (M := jm N) (x0 := J x0)
  rw [t49 H] at h
  exact h
-- 50 GlassWires$Grid rowOf (I)I
theorem v50_0 {E : gw_N} {N : NM} {res : Option Value × gw_H} {x0 : Int} (H : ((R x0) ∧ res = (some (.int (J (Int.tdiv x0 10))), hs E (jm N)))) : Ev 1 50 0 [some (.int (J x0))] [] (hs E (jm N)) res := by
  refine w50_0 ?_
  obtain ⟨q1, H⟩ := H
  exact H.trans (rt_i (div_J rfl jl_10 q1 (by decide) (by decide)) rfl)
def G50 (N : NM) (x0 : Int) : Int := (Int.tdiv x0 10)
def Q50 (N : NM) (x0 : Int) : Prop := ((R x0) ∧ True)
theorem t50 {N : NM} {x0 : Int} (H : Q50 N x0) : F50 (jm N) (J x0) = J (G50 N x0) := by
  unfold Q50 at H
  unfold F50 G50
  obtain ⟨q1, H⟩ := H
  exact (div_J rfl jl_10 q1 (by decide) (by decide))
theorem sz50 {E : gw_N} {N : NM} {x0 : Int} (H : Q50 N x0) : Rn 50 [.int (J x0)] (hs E (jm N)) (some (.int (J (G50 N x0)))) (hs E (jm N)) := by
  have h := s50 (E := E) (M := jm N) (x0 := J x0)
  rw [t50 H] at h
  exact h
-- 53 GlassWires$Grid stepRight (I)I
theorem v53_0 {E : gw_N} {N : NM} {res : Option Value × gw_H} {x0 : Int} (H : ((R x0) ∧ ((x0 = 0 → res = (some (.int (J 1)), hs E (jm N))) ∧ (¬ x0 = 0 → ((x0 = 2 → res = (some (.int (J (-1))), hs E (jm N))) ∧ (¬ x0 = 2 → res = (some (.int (J 0)), hs E (jm N)))))))) : Ev 1 53 0 [some (.int (J x0))] [] (hs E (jm N)) res := by
  refine w53_0 ?_
  obtain ⟨q1, H⟩ := H
  refine ⟨fun hc => ?_, fun hc => ?_⟩
  · replace H := H.1 ((eq_J rfl jl_0 q1 (by decide)).mp hc)
    exact H.trans (rt_i jl_1 rfl)
  · replace H := H.2 (fun hz => hc ((eq_J rfl jl_0 q1 (by decide)).mpr hz))
    refine ⟨fun hc => ?_, fun hc => ?_⟩
    · replace H := H.1 ((eq_J rfl jl_2 q1 (by decide)).mp hc)
      exact H.trans (rt_i jl_m1 rfl)
    · replace H := H.2 (fun hz => hc ((eq_J rfl jl_2 q1 (by decide)).mpr hz))
      exact H.trans (rt_i jl_0 rfl)
def G53 (N : NM) (x0 : Int) : Int := (if x0 = 0 then 1 else (if x0 = 2 then (-1) else 0))
def Q53 (N : NM) (x0 : Int) : Prop := ((R x0) ∧ ((x0 = 0 → True) ∧ (¬ x0 = 0 → ((x0 = 2 → True) ∧ (¬ x0 = 2 → True)))))
theorem t53 {N : NM} {x0 : Int} (H : Q53 N x0) : F53 (jm N) (J x0) = J (G53 N x0) := by
  unfold Q53 at H
  unfold F53 G53
  obtain ⟨q1, H⟩ := H
  refine ite_J (eq_J rfl jl_0 q1 (by decide)) (fun hc => ?_) (fun hc => ?_)
  · replace H := H.1 ((eq_J rfl jl_0 q1 (by decide)).mp hc)
    exact jl_1
  · replace H := H.2 (fun hz => hc ((eq_J rfl jl_0 q1 (by decide)).mpr hz))
    refine ite_J (eq_J rfl jl_2 q1 (by decide)) (fun hc => ?_) (fun hc => ?_)
    · replace H := H.1 ((eq_J rfl jl_2 q1 (by decide)).mp hc)
      exact jl_m1
    · replace H := H.2 (fun hz => hc ((eq_J rfl jl_2 q1 (by decide)).mpr hz))
      exact jl_0
theorem sz53 {E : gw_N} {N : NM} {x0 : Int} (H : Q53 N x0) : Rn 53 [.int (J x0)] (hs E (jm N)) (some (.int (J (G53 N x0)))) (hs E (jm N)) := by
  have h := s53 (E := E) (M := jm N) (x0 := J x0)
  rw [t53 H] at h
  exact h
-- 54 GlassWires$Grid stepUp (I)I
theorem v54_0 {E : gw_N} {N : NM} {res : Option Value × gw_H} {x0 : Int} (H : ((R x0) ∧ ((x0 = 1 → res = (some (.int (J 1)), hs E (jm N))) ∧ (¬ x0 = 1 → ((x0 = 3 → res = (some (.int (J (-1))), hs E (jm N))) ∧ (¬ x0 = 3 → res = (some (.int (J 0)), hs E (jm N)))))))) : Ev 1 54 0 [some (.int (J x0))] [] (hs E (jm N)) res := by
  refine w54_0 ?_
  obtain ⟨q1, H⟩ := H
  refine ⟨fun hc => ?_, fun hc => ?_⟩
  · replace H := H.1 ((eq_J rfl jl_1 q1 (by decide)).mp hc)
    exact H.trans (rt_i jl_1 rfl)
  · replace H := H.2 (fun hz => hc ((eq_J rfl jl_1 q1 (by decide)).mpr hz))
    refine ⟨fun hc => ?_, fun hc => ?_⟩
    · replace H := H.1 ((eq_J rfl jl_3 q1 (by decide)).mp hc)
      exact H.trans (rt_i jl_m1 rfl)
    · replace H := H.2 (fun hz => hc ((eq_J rfl jl_3 q1 (by decide)).mpr hz))
      exact H.trans (rt_i jl_0 rfl)
def G54 (N : NM) (x0 : Int) : Int := (if x0 = 1 then 1 else (if x0 = 3 then (-1) else 0))
def Q54 (N : NM) (x0 : Int) : Prop := ((R x0) ∧ ((x0 = 1 → True) ∧ (¬ x0 = 1 → ((x0 = 3 → True) ∧ (¬ x0 = 3 → True)))))
theorem t54 {N : NM} {x0 : Int} (H : Q54 N x0) : F54 (jm N) (J x0) = J (G54 N x0) := by
  unfold Q54 at H
  unfold F54 G54
  obtain ⟨q1, H⟩ := H
  refine ite_J (eq_J rfl jl_1 q1 (by decide)) (fun hc => ?_) (fun hc => ?_)
  · replace H := H.1 ((eq_J rfl jl_1 q1 (by decide)).mp hc)
    exact jl_1
  · replace H := H.2 (fun hz => hc ((eq_J rfl jl_1 q1 (by decide)).mpr hz))
    refine ite_J (eq_J rfl jl_3 q1 (by decide)) (fun hc => ?_) (fun hc => ?_)
    · replace H := H.1 ((eq_J rfl jl_3 q1 (by decide)).mp hc)
      exact jl_m1
    · replace H := H.2 (fun hz => hc ((eq_J rfl jl_3 q1 (by decide)).mpr hz))
      exact jl_0
theorem sz54 {E : gw_N} {N : NM} {x0 : Int} (H : Q54 N x0) : Rn 54 [.int (J x0)] (hs E (jm N)) (some (.int (J (G54 N x0)))) (hs E (jm N)) := by
  have h := s54 (E := E) (M := jm N) (x0 := J x0)
  rw [t54 H] at h
  exact h
-- 59 GlassWires$Net comeTo (II)V
theorem v59_0 {E : gw_N} {N : NM} {res : Option Value × gw_H} {x1 : Int} {x2 : Int} (H : ((0 ≤ x2 ∧ x2 < 89) ∧ ((R ((N 27) x2)) ∧ ((R x1) ∧ ((((N 27) x2) = x1 → res = (none, hs E (jm N))) ∧ (¬ ((N 27) x2) = x1 → res = (none, hs E (jm (upZ (upZ N 27 (updZ (N 27) x2 x1)) 25 (updZ (N 25) x2 (((N 25) x2) + 1))))))))))) : Ev 1 59 0 [some (.ref 22), some (.int (J x1)), some (.int (J x2))] [] (hs E (jm N)) res := by
  refine w59_0 ?_
  obtain ⟨q1, H⟩ := H
  refine ⟨inb_J rfl q1 (by decide), ?_⟩
  obtain ⟨q2, q3, H⟩ := H
  refine ⟨fun hc => ?_, fun hc => ?_⟩
  · replace H := H.1 ((eq_J (rd_J (jf_base _ _) rfl q1 (by decide)) rfl q2 q3).mp hc)
    exact H.trans (rt_n rfl)
  · replace H := H.2 (fun hz => hc ((eq_J (rd_J (jf_base _ _) rfl q1 (by decide)) rfl q2 q3).mpr hz))
    refine ⟨inb_J rfl q1 (by decide), ?_⟩
    refine ⟨inb_J rfl q1 (by decide), ?_⟩
    refine ⟨inb_J rfl q1 (by decide), ?_⟩
    exact H.trans (rt_n (jm_up (jm_up rfl (jf_upd (jf_base _ _) rfl q1 (by decide) rfl)) (jf_upd (jf_base _ _) rfl q1 (by decide) (add_J (rd_J (jf_base _ _) rfl q1 (by decide)) jl_1))))
-- 66 GlassWires$Net wiresOn (I)I
theorem v66_0 {E : gw_N} {N : NM} {res : Option Value × gw_H} {x1 : Int} (H : ((0 ≤ x1 ∧ x1 < 178) ∧ res = (some (.int (J ((N 23) x1))), hs E (jm N)))) : Ev 1 66 0 [some (.ref 22), some (.int (J x1))] [] (hs E (jm N)) res := by
  refine w66_0 ?_
  obtain ⟨q1, H⟩ := H
  refine ⟨inb_J rfl q1 (by decide), ?_⟩
  exact H.trans (rt_i (rd_J (jf_base _ _) rfl q1 (by decide)) rfl)
def G66 (N : NM) (x1 : Int) : Int := ((N 23) x1)
def Q66 (N : NM) (x1 : Int) : Prop := ((0 ≤ x1 ∧ x1 < 178) ∧ True)
theorem t66 {N : NM} {x1 : Int} (H : Q66 N x1) : F66 (jm N) (J x1) = J (G66 N x1) := by
  unfold Q66 at H
  unfold F66 G66
  obtain ⟨q1, H⟩ := H
  exact (rd_J (jf_base _ _) rfl q1 (by decide))
theorem p66 {N : NM} {x1 : Int} (H : Q66 N x1) : P66 (jm N) (J x1) := by
  unfold Q66 at H
  unfold P66
  obtain ⟨q1, H⟩ := H
  exact inb_J rfl q1 (by decide)
theorem sz66 {E : gw_N} {N : NM} {x1 : Int} (H : Q66 N x1) : Rn 66 [.ref 22, .int (J x1)] (hs E (jm N)) (some (.int (J (G66 N x1)))) (hs E (jm N)) := by
  have h := s66 (E := E) (M := jm N) (x1 := J x1) (p66 H)
  rw [t66 H] at h
  exact h
-- 67 GlassWires$Net isOpen (I)Z
theorem v67_0 {E : gw_N} {N : NM} {res : Option Value × gw_H} {x1 : Int} (H : ((0 ≤ x1 ∧ x1 < 178) ∧ ((R ((N 23) x1)) ∧ ((((N 23) x1) = 0 → res = (some (.int (J 1)), hs E (jm N))) ∧ (¬ ((N 23) x1) = 0 → res = (some (.int (J 0)), hs E (jm N))))))) : Ev 1 67 0 [some (.ref 22), some (.int (J x1))] [] (hs E (jm N)) res := by
  refine w67_0 ?_
  obtain ⟨q1, H⟩ := H
  refine ⟨inb_J rfl q1 (by decide), ?_⟩
  obtain ⟨q2, H⟩ := H
  refine ⟨fun hc => ?_, fun hc => ?_⟩
  · replace H := H.1 ((eq_J (rd_J (jf_base _ _) rfl q1 (by decide)) jl_0 q2 (by decide)).mp hc)
    exact H.trans (rt_i jl_1 rfl)
  · replace H := H.2 (fun hz => hc ((eq_J (rd_J (jf_base _ _) rfl q1 (by decide)) jl_0 q2 (by decide)).mpr hz))
    exact H.trans (rt_i jl_0 rfl)
def G67 (N : NM) (x1 : Int) : Int := (if ((N 23) x1) = 0 then 1 else 0)
def Q67 (N : NM) (x1 : Int) : Prop := ((0 ≤ x1 ∧ x1 < 178) ∧ ((R ((N 23) x1)) ∧ ((((N 23) x1) = 0 → True) ∧ (¬ ((N 23) x1) = 0 → True))))
theorem t67 {N : NM} {x1 : Int} (H : Q67 N x1) : F67 (jm N) (J x1) = J (G67 N x1) := by
  unfold Q67 at H
  unfold F67 G67
  obtain ⟨q1, H⟩ := H
  obtain ⟨q2, H⟩ := H
  refine ite_J (eq_J (rd_J (jf_base _ _) rfl q1 (by decide)) jl_0 q2 (by decide)) (fun hc => ?_) (fun hc => ?_)
  · replace H := H.1 ((eq_J (rd_J (jf_base _ _) rfl q1 (by decide)) jl_0 q2 (by decide)).mp hc)
    exact jl_1
  · replace H := H.2 (fun hz => hc ((eq_J (rd_J (jf_base _ _) rfl q1 (by decide)) jl_0 q2 (by decide)).mpr hz))
    exact jl_0
theorem p67 {N : NM} {x1 : Int} (H : Q67 N x1) : P67 (jm N) (J x1) := by
  unfold Q67 at H
  unfold P67
  obtain ⟨q1, H⟩ := H
  exact inb_J rfl q1 (by decide)
theorem sz67 {E : gw_N} {N : NM} {x1 : Int} (H : Q67 N x1) : Rn 67 [.ref 22, .int (J x1)] (hs E (jm N)) (some (.int (J (G67 N x1)))) (hs E (jm N)) := by
  have h := s67 (E := E) (M := jm N) (x1 := J x1) (p67 H)
  rw [t67 H] at h
  exact h
-- 68 GlassWires$Net isSoldered (I)Z
theorem v68_0 {E : gw_N} {N : NM} {res : Option Value × gw_H} {x1 : Int} (H : ((0 ≤ x1 ∧ x1 < 178) ∧ ((R ((N 24) x1)) ∧ ((((N 24) x1) ≤ 0 → res = (some (.int (J 0)), hs E (jm N))) ∧ (¬ ((N 24) x1) ≤ 0 → res = (some (.int (J 1)), hs E (jm N))))))) : Ev 1 68 0 [some (.ref 22), some (.int (J x1))] [] (hs E (jm N)) res := by
  refine w68_0 ?_
  obtain ⟨q1, H⟩ := H
  refine ⟨inb_J rfl q1 (by decide), ?_⟩
  obtain ⟨q2, H⟩ := H
  refine ⟨fun hc => ?_, fun hc => ?_⟩
  · replace H := H.1 ((le_J (rd_J (jf_base _ _) rfl q1 (by decide)) jl_0 q2 (by decide)).mp hc)
    exact H.trans (rt_i jl_0 rfl)
  · replace H := H.2 (fun hz => hc ((le_J (rd_J (jf_base _ _) rfl q1 (by decide)) jl_0 q2 (by decide)).mpr hz))
    exact H.trans (rt_i jl_1 rfl)
def G68 (N : NM) (x1 : Int) : Int := (if ((N 24) x1) ≤ 0 then 0 else 1)
def Q68 (N : NM) (x1 : Int) : Prop := ((0 ≤ x1 ∧ x1 < 178) ∧ ((R ((N 24) x1)) ∧ ((((N 24) x1) ≤ 0 → True) ∧ (¬ ((N 24) x1) ≤ 0 → True))))
theorem t68 {N : NM} {x1 : Int} (H : Q68 N x1) : F68 (jm N) (J x1) = J (G68 N x1) := by
  unfold Q68 at H
  unfold F68 G68
  obtain ⟨q1, H⟩ := H
  obtain ⟨q2, H⟩ := H
  refine ite_J (le_J (rd_J (jf_base _ _) rfl q1 (by decide)) jl_0 q2 (by decide)) (fun hc => ?_) (fun hc => ?_)
  · replace H := H.1 ((le_J (rd_J (jf_base _ _) rfl q1 (by decide)) jl_0 q2 (by decide)).mp hc)
    exact jl_0
  · replace H := H.2 (fun hz => hc ((le_J (rd_J (jf_base _ _) rfl q1 (by decide)) jl_0 q2 (by decide)).mpr hz))
    exact jl_1
theorem p68 {N : NM} {x1 : Int} (H : Q68 N x1) : P68 (jm N) (J x1) := by
  unfold Q68 at H
  unfold P68
  obtain ⟨q1, H⟩ := H
  exact inb_J rfl q1 (by decide)
theorem sz68 {E : gw_N} {N : NM} {x1 : Int} (H : Q68 N x1) : Rn 68 [.ref 22, .int (J x1)] (hs E (jm N)) (some (.int (J (G68 N x1)))) (hs E (jm N)) := by
  have h := s68 (E := E) (M := jm N) (x1 := J x1) (p68 H)
  rw [t68 H] at h
  exact h
-- 78 GlassWires$Page length ()I
theorem v78_0 {E : gw_N} {N : NM} {res : Option Value × gw_H}  (H : res = (some (.int (J ((N 12) 1))), hs E (jm N))) : Ev 1 78 0 [some (.ref 12)] [] (hs E (jm N)) res := by
  refine w78_0 ?_
  exact H.trans (rt_i (fld_J (jf_base _ _)) rfl)
def G78 (N : NM) : Int := ((N 12) 1)
theorem t78 {N : NM} : F78 (jm N) = J (G78 N) := by
  have H : True := trivial
  unfold F78 G78
  exact (fld_J (jf_base _ _))
theorem sz78 {E : gw_N} {N : NM} : Rn 78 [.ref 12] (hs E (jm N)) (some (.int (J (G78 N)))) (hs E (jm N)) := by
  have h := s78 (E := E) (M := jm N)
  rw [t78] at h
  exact h
-- 79 GlassWires$Page clear ()I
theorem v79_0 {E : gw_N} {N : NM} {res : Option Value × gw_H}  (H : res = (some (.int (J ((N 12) 1))), hs E (jm (upZ N 12 (updZ (N 12) 1 0))))) : Ev 1 79 0 [some (.ref 12), none] [] (hs E (jm N)) res := by
  refine w79_0 ?_
  exact H.trans (rt_i (fld_J (jf_base _ _)) (jm_up rfl (jf_updk (jf_base _ _) jl_0)))
-- 82 GlassWires$Page byteOf (JI)I
theorem v82_0 {E : gw_N} {N : NM} {res : Option Value × gw_H} {x0 : Int64} {x2 : Int} (H : res = (some (.int (J (Int64.toInt32 ((lushrZ x0 (J (8 * x2))) &&& 255)).toInt)), hs E (jm N))) : Ev 1 82 0 [some (.long x0), none, some (.int (J x2))] [] (hs E (jm N)) res := by
  refine w82_0 ?_
  exact H.trans (rt_i (opq_J (congrArg Int64.toInt32 (cg2 (fun (a b : Int64) => a &&& b) (cg2 lushrZ rfl (mul_J jl_8 rfl)) rfl))) rfl)
def G82 (N : NM) (x0 : Int64) (x2 : Int) : Int := (Int64.toInt32 ((lushrZ x0 (J (8 * x2))) &&& 255)).toInt
theorem t82 {N : NM} {x0 : Int64} {x2 : Int} : F82 (jm N) x0 (J x2) = J (G82 N x0 x2) := by
  have H : True := trivial
  unfold F82 G82
  exact (opq_J (congrArg Int64.toInt32 (cg2 (fun (a b : Int64) => a &&& b) (cg2 lushrZ rfl (mul_J jl_8 rfl)) rfl)))
theorem sz82 {E : gw_N} {N : NM} {x0 : Int64} {x2 : Int} : Rn 82 [.long x0, .int (J x2)] (hs E (jm N)) (some (.int (J (G82 N x0 x2)))) (hs E (jm N)) := by
  have h := s82 (E := E) (M := jm N) (x0 := x0) (x2 := J x2)
  rw [t82] at h
  exact h
-- 83 GlassWires$Page wayAt (I)I
theorem v83_0 {E : gw_N} {N : NM} {res : Option Value × gw_H} {x1 : Int} (H : ((R x1) ∧ ((x1 < 0 → res = (some (.int (J (-1))), hs E (jm N))) ∧ (¬ x1 < 0 → ((R ((N 12) 1)) ∧ ((x1 < ((N 12) 1) → ((0 ≤ x1 ∧ x1 < 40) ∧ ((R ((N 13) x1)) ∧ ((((N 13) x1) = 100 → res = (some (.int (J 3)), hs E (jm N))) ∧ (((N 13) x1) = 108 → res = (some (.int (J 2)), hs E (jm N))) ∧ (((N 13) x1) = 114 → res = (some (.int (J 0)), hs E (jm N))) ∧ (((N 13) x1) = 117 → res = (some (.int (J 1)), hs E (jm N))) ∧ (¬ ((N 13) x1) = 100 → ¬ ((N 13) x1) = 108 → ¬ ((N 13) x1) = 114 → ¬ ((N 13) x1) = 117 → res = (some (.int (J (-1))), hs E (jm N))))))) ∧ (¬ x1 < ((N 12) 1) → res = (some (.int (J (-1))), hs E (jm N))))))))) : Ev 1 83 0 [some (.ref 12), some (.int (J x1))] [] (hs E (jm N)) res := by
  refine w83_0 ?_
  obtain ⟨q1, H⟩ := H
  refine ⟨fun hc => ?_, fun hc => ?_⟩
  · replace H := H.1 ((lt_J rfl jl_0 q1 (by decide)).mp hc)
    exact H.trans (rt_i jl_m1 rfl)
  · replace H := H.2 (fun hz => hc ((lt_J rfl jl_0 q1 (by decide)).mpr hz))
    obtain ⟨q2, H⟩ := H
    refine ⟨fun hc => ?_, fun hc => ?_⟩
    · replace H := H.1 ((lt_J rfl (fld_J (jf_base _ _)) q1 q2).mp hc)
      obtain ⟨q3, H⟩ := H
      refine ⟨inb_J rfl q3 (by decide), ?_⟩
      obtain ⟨q4, H⟩ := H
      refine ⟨fun hc => ?_, fun hc => ?_, fun hc => ?_, fun hc => ?_, fun hc0 hc1 hc2 hc3 => ?_⟩
      · replace H := (H.1) ((eq_J (rd_J (jf_base _ _) rfl q3 (by decide)) jl_100 q4 (by decide)).mp hc)
        exact H.trans (rt_i jl_3 rfl)
      · replace H := (H.2.1) ((eq_J (rd_J (jf_base _ _) rfl q3 (by decide)) jl_108 q4 (by decide)).mp hc)
        exact H.trans (rt_i jl_2 rfl)
      · replace H := (H.2.2.1) ((eq_J (rd_J (jf_base _ _) rfl q3 (by decide)) jl_114 q4 (by decide)).mp hc)
        exact H.trans (rt_i jl_0 rfl)
      · replace H := (H.2.2.2.1) ((eq_J (rd_J (jf_base _ _) rfl q3 (by decide)) jl_117 q4 (by decide)).mp hc)
        exact H.trans (rt_i jl_1 rfl)
      · replace H := (H.2.2.2.2) (fun hz => hc0 ((eq_J (rd_J (jf_base _ _) rfl q3 (by decide)) jl_100 q4 (by decide)).mpr hz)) (fun hz => hc1 ((eq_J (rd_J (jf_base _ _) rfl q3 (by decide)) jl_108 q4 (by decide)).mpr hz)) (fun hz => hc2 ((eq_J (rd_J (jf_base _ _) rfl q3 (by decide)) jl_114 q4 (by decide)).mpr hz)) (fun hz => hc3 ((eq_J (rd_J (jf_base _ _) rfl q3 (by decide)) jl_117 q4 (by decide)).mpr hz))
        exact H.trans (rt_i jl_m1 rfl)
    · replace H := H.2 (fun hz => hc ((lt_J rfl (fld_J (jf_base _ _)) q1 q2).mpr hz))
      exact H.trans (rt_i jl_m1 rfl)
def G83 (N : NM) (x1 : Int) : Int := (if x1 < 0 then (-1) else (if x1 < ((N 12) 1) then (if ((N 13) x1) = 100 then 3 else (if ((N 13) x1) = 108 then 2 else (if ((N 13) x1) = 114 then 0 else (if ((N 13) x1) = 117 then 1 else (-1))))) else (-1)))
def Q83 (N : NM) (x1 : Int) : Prop := ((R x1) ∧ ((x1 < 0 → True) ∧ (¬ x1 < 0 → ((R ((N 12) 1)) ∧ ((x1 < ((N 12) 1) → ((0 ≤ x1 ∧ x1 < 40) ∧ ((R ((N 13) x1)) ∧ ((((N 13) x1) = 100 → True) ∧ (¬ ((N 13) x1) = 100 → ((((N 13) x1) = 108 → True) ∧ (¬ ((N 13) x1) = 108 → ((((N 13) x1) = 114 → True) ∧ (¬ ((N 13) x1) = 114 → ((((N 13) x1) = 117 → True) ∧ (¬ ((N 13) x1) = 117 → True))))))))))) ∧ (¬ x1 < ((N 12) 1) → True))))))
theorem t83 {N : NM} {x1 : Int} (H : Q83 N x1) : F83 (jm N) (J x1) = J (G83 N x1) := by
  unfold Q83 at H
  unfold F83 G83
  obtain ⟨q1, H⟩ := H
  refine ite_J (lt_J rfl jl_0 q1 (by decide)) (fun hc => ?_) (fun hc => ?_)
  · replace H := H.1 ((lt_J rfl jl_0 q1 (by decide)).mp hc)
    exact jl_m1
  · replace H := H.2 (fun hz => hc ((lt_J rfl jl_0 q1 (by decide)).mpr hz))
    obtain ⟨q2, H⟩ := H
    refine ite_J (lt_J rfl (fld_J (jf_base _ _)) q1 q2) (fun hc => ?_) (fun hc => ?_)
    · replace H := H.1 ((lt_J rfl (fld_J (jf_base _ _)) q1 q2).mp hc)
      obtain ⟨q3, H⟩ := H
      obtain ⟨q4, H⟩ := H
      refine ite_J (eq_J (rd_J (jf_base _ _) rfl q3 (by decide)) jl_100 q4 (by decide)) (fun hc => ?_) (fun hc => ?_)
      · replace H := H.1 ((eq_J (rd_J (jf_base _ _) rfl q3 (by decide)) jl_100 q4 (by decide)).mp hc)
        exact jl_3
      · replace H := H.2 (fun hz => hc ((eq_J (rd_J (jf_base _ _) rfl q3 (by decide)) jl_100 q4 (by decide)).mpr hz))
        refine ite_J (eq_J (rd_J (jf_base _ _) rfl q3 (by decide)) jl_108 q4 (by decide)) (fun hc => ?_) (fun hc => ?_)
        · replace H := H.1 ((eq_J (rd_J (jf_base _ _) rfl q3 (by decide)) jl_108 q4 (by decide)).mp hc)
          exact jl_2
        · replace H := H.2 (fun hz => hc ((eq_J (rd_J (jf_base _ _) rfl q3 (by decide)) jl_108 q4 (by decide)).mpr hz))
          refine ite_J (eq_J (rd_J (jf_base _ _) rfl q3 (by decide)) jl_114 q4 (by decide)) (fun hc => ?_) (fun hc => ?_)
          · replace H := H.1 ((eq_J (rd_J (jf_base _ _) rfl q3 (by decide)) jl_114 q4 (by decide)).mp hc)
            exact jl_0
          · replace H := H.2 (fun hz => hc ((eq_J (rd_J (jf_base _ _) rfl q3 (by decide)) jl_114 q4 (by decide)).mpr hz))
            refine ite_J (eq_J (rd_J (jf_base _ _) rfl q3 (by decide)) jl_117 q4 (by decide)) (fun hc => ?_) (fun hc => ?_)
            · replace H := H.1 ((eq_J (rd_J (jf_base _ _) rfl q3 (by decide)) jl_117 q4 (by decide)).mp hc)
              exact jl_1
            · replace H := H.2 (fun hz => hc ((eq_J (rd_J (jf_base _ _) rfl q3 (by decide)) jl_117 q4 (by decide)).mpr hz))
              exact jl_m1
    · replace H := H.2 (fun hz => hc ((lt_J rfl (fld_J (jf_base _ _)) q1 q2).mpr hz))
      exact jl_m1
theorem p83 {N : NM} {x1 : Int} (H : Q83 N x1) : P83 (jm N) (J x1) := by
  unfold Q83 at H
  unfold P83
  obtain ⟨q1, H⟩ := H
  refine ⟨fun hc => ?_, fun hc => ?_⟩
  · replace H := H.1 ((lt_J rfl jl_0 q1 (by decide)).mp hc)
    trivial
  · replace H := H.2 (fun hz => hc ((lt_J rfl jl_0 q1 (by decide)).mpr hz))
    obtain ⟨q2, H⟩ := H
    refine ⟨fun hc => ?_, fun hc => ?_⟩
    · replace H := H.1 ((lt_J rfl (fld_J (jf_base _ _)) q1 q2).mp hc)
      obtain ⟨q3, H⟩ := H
      exact inb_J rfl q3 (by decide)
    · replace H := H.2 (fun hz => hc ((lt_J rfl (fld_J (jf_base _ _)) q1 q2).mpr hz))
      trivial
theorem sz83 {E : gw_N} {N : NM} {x1 : Int} (H : Q83 N x1) : Rn 83 [.ref 12, .int (J x1)] (hs E (jm N)) (some (.int (J (G83 N x1)))) (hs E (jm N)) := by
  have h := s83 (E := E) (M := jm N) (x1 := J x1) (p83 H)
  rw [t83 H] at h
  exact h
-- 92 GlassWires$Painter isFree (I[III)Z
theorem v92_0 {E : gw_N} {N : NM} {res : Option Value × gw_H} {x0 : Int} {x2 : Int} {x3 : Int} (H : Ev 1 92 3 [some (.int (J x0)), some (.ref 39), some (.int (J x2)), some (.int (J x3)), some (.int (J 0))] [] (hs E (jm N)) res) : Ev 1 92 0 [some (.int (J x0)), some (.ref 39), some (.int (J x2)), some (.int (J x3)), none] [] (hs E (jm N)) res := by
  refine w92_0 ?_
  exact Ev_to (cli rfl (clx (cli rfl (cli rfl (cli jl_0 rfl))))) rfl rfl H
theorem v92_3 {E : gw_N} {N : NM} {res : Option Value × gw_H} {x0 : Int} {x2 : Int} {x3 : Int} {x4 : Int} (H : ((R x2) ∧ ((R x4) ∧ ((x2 ≤ x4 → res = (some (.int (J 1)), hs E (jm N))) ∧ (¬ x2 ≤ x4 → (((zand (zshr x0 x4) 1) = 1 → ((0 ≤ x4 ∧ x4 < 10) ∧ ((R ((N 39) x4)) ∧ ((R x3) ∧ ((((N 39) x4) = x3 → res = (some (.int (J 0)), hs E (jm N))) ∧ (¬ ((N 39) x4) = x3 → Ev 1 92 3 [some (.int (J x0)), some (.ref 39), some (.int (J x2)), some (.int (J x3)), some (.int (J (x4 + 1)))] [] (hs E (jm N)) res)))))) ∧ (¬ (zand (zshr x0 x4) 1) = 1 → Ev 1 92 3 [some (.int (J x0)), some (.ref 39), some (.int (J x2)), some (.int (J x3)), some (.int (J (x4 + 1)))] [] (hs E (jm N)) res))))))) : Ev 1 92 3 [some (.int (J x0)), some (.ref 39), some (.int (J x2)), some (.int (J x3)), some (.int (J x4))] [] (hs E (jm N)) res := by
  refine w92_3 ?_
  obtain ⟨q1, q2, H⟩ := H
  refine ⟨fun hc => ?_, fun hc => ?_⟩
  · replace H := H.1 ((le_J rfl rfl q1 q2).mp hc)
    exact H.trans (rt_i jl_1 rfl)
  · replace H := H.2 (fun hz => hc ((le_J rfl rfl q1 q2).mpr hz))
    refine ⟨fun hc => ?_, fun hc => ?_⟩
    · replace H := H.1 ((eq_J (zand_J (zshr_J rfl rfl) jl_1) jl_1 (R_toInt _) (by decide)).mp hc)
      obtain ⟨q3, H⟩ := H
      refine ⟨inb_J rfl q3 (by decide), ?_⟩
      obtain ⟨q4, q5, H⟩ := H
      refine ⟨fun hc => ?_, fun hc => ?_⟩
      · replace H := H.1 ((eq_J (rd_J (jf_base _ _) rfl q3 (by decide)) rfl q4 q5).mp hc)
        exact H.trans (rt_i jl_0 rfl)
      · replace H := H.2 (fun hz => hc ((eq_J (rd_J (jf_base _ _) rfl q3 (by decide)) rfl q4 q5).mpr hz))
        exact Ev_to (cli rfl (clx (cli rfl (cli rfl (cli (add_J rfl jl_1) rfl))))) rfl rfl H
    · replace H := H.2 (fun hz => hc ((eq_J (zand_J (zshr_J rfl rfl) jl_1) jl_1 (R_toInt _) (by decide)).mpr hz))
      exact Ev_to (cli rfl (clx (cli rfl (cli rfl (cli (add_J rfl jl_1) rfl))))) rfl rfl H
-- 94 GlassWires$Palette has (I)Z
theorem v94_0 {E : gw_N} {N : NM} {res : Option Value × gw_H} {x0 : Int} (H : ((R x0) ∧ ((x0 < 0 → res = (some (.int (J 0)), hs E (jm N))) ∧ (¬ x0 < 0 → (((8 : Int) ≤ x0 → res = (some (.int (J 0)), hs E (jm N))) ∧ (¬ (8 : Int) ≤ x0 → res = (some (.int (J 1)), hs E (jm N)))))))) : Ev 1 94 0 [some (.int (J x0))] [] (hs E (jm N)) res := by
  refine w94_0 ?_
  obtain ⟨q1, H⟩ := H
  refine ⟨fun hc => ?_, fun hc => ?_⟩
  · replace H := H.1 ((lt_J rfl jl_0 q1 (by decide)).mp hc)
    exact H.trans (rt_i jl_0 rfl)
  · replace H := H.2 (fun hz => hc ((lt_J rfl jl_0 q1 (by decide)).mpr hz))
    refine ⟨fun hc => ?_, fun hc => ?_⟩
    · replace H := H.1 ((le_J jl_8 rfl (by decide) q1).mp hc)
      exact H.trans (rt_i jl_0 rfl)
    · replace H := H.2 (fun hz => hc ((le_J jl_8 rfl (by decide) q1).mpr hz))
      exact H.trans (rt_i jl_1 rfl)
def G94 (N : NM) (x0 : Int) : Int := (if x0 < 0 then 0 else (if (8 : Int) ≤ x0 then 0 else 1))
def Q94 (N : NM) (x0 : Int) : Prop := ((R x0) ∧ ((x0 < 0 → True) ∧ (¬ x0 < 0 → (((8 : Int) ≤ x0 → True) ∧ (¬ (8 : Int) ≤ x0 → True)))))
theorem t94 {N : NM} {x0 : Int} (H : Q94 N x0) : F94 (jm N) (J x0) = J (G94 N x0) := by
  unfold Q94 at H
  unfold F94 G94
  obtain ⟨q1, H⟩ := H
  refine ite_J (lt_J rfl jl_0 q1 (by decide)) (fun hc => ?_) (fun hc => ?_)
  · replace H := H.1 ((lt_J rfl jl_0 q1 (by decide)).mp hc)
    exact jl_0
  · replace H := H.2 (fun hz => hc ((lt_J rfl jl_0 q1 (by decide)).mpr hz))
    refine ite_J (le_J jl_8 rfl (by decide) q1) (fun hc => ?_) (fun hc => ?_)
    · replace H := H.1 ((le_J jl_8 rfl (by decide) q1).mp hc)
      exact jl_0
    · replace H := H.2 (fun hz => hc ((le_J jl_8 rfl (by decide) q1).mpr hz))
      exact jl_1
theorem sz94 {E : gw_N} {N : NM} {x0 : Int} (H : Q94 N x0) : Rn 94 [.int (J x0)] (hs E (jm N)) (some (.int (J (G94 N x0)))) (hs E (jm N)) := by
  have h := s94 (E := E) (M := jm N) (x0 := J x0)
  rw [t94 H] at h
  exact h
-- 95 GlassWires$Palette hasTrait (I)Z
theorem v95_0 {E : gw_N} {N : NM} {res : Option Value × gw_H} {x0 : Int} (H : ((R x0) ∧ ((x0 < 0 → res = (some (.int (J 0)), hs E (jm N))) ∧ (¬ x0 < 0 → (((3 : Int) ≤ x0 → res = (some (.int (J 0)), hs E (jm N))) ∧ (¬ (3 : Int) ≤ x0 → res = (some (.int (J 1)), hs E (jm N)))))))) : Ev 1 95 0 [some (.int (J x0))] [] (hs E (jm N)) res := by
  refine w95_0 ?_
  obtain ⟨q1, H⟩ := H
  refine ⟨fun hc => ?_, fun hc => ?_⟩
  · replace H := H.1 ((lt_J rfl jl_0 q1 (by decide)).mp hc)
    exact H.trans (rt_i jl_0 rfl)
  · replace H := H.2 (fun hz => hc ((lt_J rfl jl_0 q1 (by decide)).mpr hz))
    refine ⟨fun hc => ?_, fun hc => ?_⟩
    · replace H := H.1 ((le_J jl_3 rfl (by decide) q1).mp hc)
      exact H.trans (rt_i jl_0 rfl)
    · replace H := H.2 (fun hz => hc ((le_J jl_3 rfl (by decide) q1).mpr hz))
      exact H.trans (rt_i jl_1 rfl)
def G95 (N : NM) (x0 : Int) : Int := (if x0 < 0 then 0 else (if (3 : Int) ≤ x0 then 0 else 1))
def Q95 (N : NM) (x0 : Int) : Prop := ((R x0) ∧ ((x0 < 0 → True) ∧ (¬ x0 < 0 → (((3 : Int) ≤ x0 → True) ∧ (¬ (3 : Int) ≤ x0 → True)))))
theorem t95 {N : NM} {x0 : Int} (H : Q95 N x0) : F95 (jm N) (J x0) = J (G95 N x0) := by
  unfold Q95 at H
  unfold F95 G95
  obtain ⟨q1, H⟩ := H
  refine ite_J (lt_J rfl jl_0 q1 (by decide)) (fun hc => ?_) (fun hc => ?_)
  · replace H := H.1 ((lt_J rfl jl_0 q1 (by decide)).mp hc)
    exact jl_0
  · replace H := H.2 (fun hz => hc ((lt_J rfl jl_0 q1 (by decide)).mpr hz))
    refine ite_J (le_J jl_3 rfl (by decide) q1) (fun hc => ?_) (fun hc => ?_)
    · replace H := H.1 ((le_J jl_3 rfl (by decide) q1).mp hc)
      exact jl_0
    · replace H := H.2 (fun hz => hc ((le_J jl_3 rfl (by decide) q1).mpr hz))
      exact jl_1
theorem sz95 {E : gw_N} {N : NM} {x0 : Int} (H : Q95 N x0) : Rn 95 [.int (J x0)] (hs E (jm N)) (some (.int (J (G95 N x0)))) (hs E (jm N)) := by
  have h := s95 (E := E) (M := jm N) (x0 := J x0)
  rw [t95 H] at h
  exact h
-- 96 GlassWires$Palette hasRule (I)Z
theorem v96_0 {E : gw_N} {N : NM} {res : Option Value × gw_H} {x0 : Int} (H : ((R x0) ∧ ((x0 < 0 → res = (some (.int (J 0)), hs E (jm N))) ∧ (¬ x0 < 0 → (((3 : Int) ≤ x0 → res = (some (.int (J 0)), hs E (jm N))) ∧ (¬ (3 : Int) ≤ x0 → res = (some (.int (J 1)), hs E (jm N)))))))) : Ev 1 96 0 [some (.int (J x0))] [] (hs E (jm N)) res := by
  refine w96_0 ?_
  obtain ⟨q1, H⟩ := H
  refine ⟨fun hc => ?_, fun hc => ?_⟩
  · replace H := H.1 ((lt_J rfl jl_0 q1 (by decide)).mp hc)
    exact H.trans (rt_i jl_0 rfl)
  · replace H := H.2 (fun hz => hc ((lt_J rfl jl_0 q1 (by decide)).mpr hz))
    refine ⟨fun hc => ?_, fun hc => ?_⟩
    · replace H := H.1 ((le_J jl_3 rfl (by decide) q1).mp hc)
      exact H.trans (rt_i jl_0 rfl)
    · replace H := H.2 (fun hz => hc ((le_J jl_3 rfl (by decide) q1).mpr hz))
      exact H.trans (rt_i jl_1 rfl)
def G96 (N : NM) (x0 : Int) : Int := (if x0 < 0 then 0 else (if (3 : Int) ≤ x0 then 0 else 1))
def Q96 (N : NM) (x0 : Int) : Prop := ((R x0) ∧ ((x0 < 0 → True) ∧ (¬ x0 < 0 → (((3 : Int) ≤ x0 → True) ∧ (¬ (3 : Int) ≤ x0 → True)))))
theorem t96 {N : NM} {x0 : Int} (H : Q96 N x0) : F96 (jm N) (J x0) = J (G96 N x0) := by
  unfold Q96 at H
  unfold F96 G96
  obtain ⟨q1, H⟩ := H
  refine ite_J (lt_J rfl jl_0 q1 (by decide)) (fun hc => ?_) (fun hc => ?_)
  · replace H := H.1 ((lt_J rfl jl_0 q1 (by decide)).mp hc)
    exact jl_0
  · replace H := H.2 (fun hz => hc ((lt_J rfl jl_0 q1 (by decide)).mpr hz))
    refine ite_J (le_J jl_3 rfl (by decide) q1) (fun hc => ?_) (fun hc => ?_)
    · replace H := H.1 ((le_J jl_3 rfl (by decide) q1).mp hc)
      exact jl_0
    · replace H := H.2 (fun hz => hc ((le_J jl_3 rfl (by decide) q1).mpr hz))
      exact jl_1
theorem sz96 {E : gw_N} {N : NM} {x0 : Int} (H : Q96 N x0) : Rn 96 [.int (J x0)] (hs E (jm N)) (some (.int (J (G96 N x0)))) (hs E (jm N)) := by
  have h := s96 (E := E) (M := jm N) (x0 := J x0)
  rw [t96 H] at h
  exact h
-- 97 GlassWires$Palette setTrait (III)I
theorem v97_0 {E : gw_N} {N : NM} {res : Option Value × gw_H} {x1 : Int} {x2 : Int} {x3 : Int} (H : ((0 ≤ x2 ∧ x2 < 3) ∧ ((R x3) ∧ ((x3 < (rz E 1 x2) → res = (some (.int (J (-102))), hs E (jm N))) ∧ (¬ x3 < (rz E 1 x2) → ((x3 ≤ (rz E 2 x2) → ((0 ≤ ((3 * x1) + x2) ∧ ((3 * x1) + x2) < 24) ∧ res = (some (.int (J ((N 41) ((3 * x1) + x2)))), hs E (jm (upZ N 41 (updZ (N 41) ((3 * x1) + x2) x3)))))) ∧ (¬ x3 ≤ (rz E 2 x2) → res = (some (.int (J (-102))), hs E (jm N))))))))) : Ev 1 97 0 [some (.ref 40), some (.int (J x1)), some (.int (J x2)), some (.int (J x3)), none] [] (hs E (jm N)) res := by
  refine w97_0 ?_
  obtain ⟨q1, H⟩ := H
  refine ⟨inb_J rfl q1 (by decide), ?_⟩
  obtain ⟨q2, H⟩ := H
  refine ⟨fun hc => ?_, fun hc => ?_⟩
  · replace H := H.1 ((lt_J rfl (rc_J rfl q1 (by decide)) q2 (R_toInt _)).mp hc)
    exact H.trans (rt_i jl_m102 rfl)
  · replace H := H.2 (fun hz => hc ((lt_J rfl (rc_J rfl q1 (by decide)) q2 (R_toInt _)).mpr hz))
    refine ⟨inb_J rfl q1 (by decide), ?_⟩
    refine ⟨fun hc => ?_, fun hc => ?_⟩
    · replace H := H.1 ((le_J rfl (rc_J rfl q1 (by decide)) q2 (R_toInt _)).mp hc)
      obtain ⟨q3, H⟩ := H
      refine ⟨inb_J (add_J (mul_J jl_3 rfl) rfl) q3 (by decide), ?_⟩
      refine ⟨inb_J (add_J (mul_J jl_3 rfl) rfl) q3 (by decide), ?_⟩
      exact H.trans (rt_i (rd_J (jf_base _ _) (add_J (mul_J jl_3 rfl) rfl) q3 (by decide)) (jm_up rfl (jf_upd (jf_base _ _) (add_J (mul_J jl_3 rfl) rfl) q3 (by decide) rfl)))
    · replace H := H.2 (fun hz => hc ((le_J rfl (rc_J rfl q1 (by decide)) q2 (R_toInt _)).mpr hz))
      exact H.trans (rt_i jl_m102 rfl)
-- 98 GlassWires$Palette setRule (II)I
theorem v98_0 {E : gw_N} {N : NM} {res : Option Value × gw_H} {x1 : Int} {x2 : Int} (H : ((R x2) ∧ ((x2 < 1 → res = (some (.int (J (-102))), hs E (jm N))) ∧ (¬ x2 < 1 → ((0 ≤ x1 ∧ x1 < 3) ∧ ((x2 ≤ (rz E 4 x1) → res = (some (.int (J ((N 43) x1))), hs E (jm (upZ N 43 (updZ (N 43) x1 x2))))) ∧ (¬ x2 ≤ (rz E 4 x1) → res = (some (.int (J (-102))), hs E (jm N))))))))) : Ev 1 98 0 [some (.ref 40), some (.int (J x1)), some (.int (J x2)), none] [] (hs E (jm N)) res := by
  refine w98_0 ?_
  obtain ⟨q1, H⟩ := H
  refine ⟨fun hc => ?_, fun hc => ?_⟩
  · replace H := H.1 ((lt_J rfl jl_1 q1 (by decide)).mp hc)
    exact H.trans (rt_i jl_m102 rfl)
  · replace H := H.2 (fun hz => hc ((lt_J rfl jl_1 q1 (by decide)).mpr hz))
    obtain ⟨q2, H⟩ := H
    refine ⟨inb_J rfl q2 (by decide), ?_⟩
    refine ⟨fun hc => ?_, fun hc => ?_⟩
    · replace H := H.1 ((le_J rfl (rc_J rfl q2 (by decide)) q1 (R_toInt _)).mp hc)
      refine ⟨inb_J rfl q2 (by decide), ?_⟩
      refine ⟨inb_J rfl q2 (by decide), ?_⟩
      exact H.trans (rt_i (rd_J (jf_base _ _) rfl q2 (by decide)) (jm_up rfl (jf_upd (jf_base _ _) rfl q2 (by decide) rfl)))
    · replace H := H.2 (fun hz => hc ((le_J rfl (rc_J rfl q2 (by decide)) q1 (R_toInt _)).mpr hz))
      exact H.trans (rt_i jl_m102 rfl)
-- 99 GlassWires$Palette heatOf (I)I
theorem v99_0 {E : gw_N} {N : NM} {res : Option Value × gw_H} {x1 : Int} (H : ((0 ≤ ((3 * x1) + 0) ∧ ((3 * x1) + 0) < 24) ∧ res = (some (.int (J ((N 41) ((3 * x1) + 0)))), hs E (jm N)))) : Ev 1 99 0 [some (.ref 40), some (.int (J x1))] [] (hs E (jm N)) res := by
  refine w99_0 ?_
  obtain ⟨q1, H⟩ := H
  refine ⟨inb_J (add_J (mul_J jl_3 rfl) jl_0) q1 (by decide), ?_⟩
  exact H.trans (rt_i (rd_J (jf_base _ _) (add_J (mul_J jl_3 rfl) jl_0) q1 (by decide)) rfl)
def G99 (N : NM) (x1 : Int) : Int := ((N 41) ((3 * x1) + 0))
def Q99 (N : NM) (x1 : Int) : Prop := ((0 ≤ ((3 * x1) + 0) ∧ ((3 * x1) + 0) < 24) ∧ True)
theorem t99 {N : NM} {x1 : Int} (H : Q99 N x1) : F99 (jm N) (J x1) = J (G99 N x1) := by
  unfold Q99 at H
  unfold F99 G99
  obtain ⟨q1, H⟩ := H
  exact (rd_J (jf_base _ _) (add_J (mul_J jl_3 rfl) jl_0) q1 (by decide))
theorem p99 {N : NM} {x1 : Int} (H : Q99 N x1) : P99 (jm N) (J x1) := by
  unfold Q99 at H
  unfold P99
  obtain ⟨q1, H⟩ := H
  exact inb_J (add_J (mul_J jl_3 rfl) jl_0) q1 (by decide)
theorem sz99 {E : gw_N} {N : NM} {x1 : Int} (H : Q99 N x1) : Rn 99 [.ref 40, .int (J x1)] (hs E (jm N)) (some (.int (J (G99 N x1)))) (hs E (jm N)) := by
  have h := s99 (E := E) (M := jm N) (x1 := J x1) (p99 H)
  rw [t99 H] at h
  exact h
-- 101 GlassWires$Palette pullOf (I)I
theorem v101_0 {E : gw_N} {N : NM} {res : Option Value × gw_H} {x1 : Int} (H : ((0 ≤ ((3 * x1) + 2) ∧ ((3 * x1) + 2) < 24) ∧ res = (some (.int (J ((N 41) ((3 * x1) + 2)))), hs E (jm N)))) : Ev 1 101 0 [some (.ref 40), some (.int (J x1))] [] (hs E (jm N)) res := by
  refine w101_0 ?_
  obtain ⟨q1, H⟩ := H
  refine ⟨inb_J (add_J (mul_J jl_3 rfl) jl_2) q1 (by decide), ?_⟩
  exact H.trans (rt_i (rd_J (jf_base _ _) (add_J (mul_J jl_3 rfl) jl_2) q1 (by decide)) rfl)
def G101 (N : NM) (x1 : Int) : Int := ((N 41) ((3 * x1) + 2))
def Q101 (N : NM) (x1 : Int) : Prop := ((0 ≤ ((3 * x1) + 2) ∧ ((3 * x1) + 2) < 24) ∧ True)
theorem t101 {N : NM} {x1 : Int} (H : Q101 N x1) : F101 (jm N) (J x1) = J (G101 N x1) := by
  unfold Q101 at H
  unfold F101 G101
  obtain ⟨q1, H⟩ := H
  exact (rd_J (jf_base _ _) (add_J (mul_J jl_3 rfl) jl_2) q1 (by decide))
theorem p101 {N : NM} {x1 : Int} (H : Q101 N x1) : P101 (jm N) (J x1) := by
  unfold Q101 at H
  unfold P101
  obtain ⟨q1, H⟩ := H
  exact inb_J (add_J (mul_J jl_3 rfl) jl_2) q1 (by decide)
theorem sz101 {E : gw_N} {N : NM} {x1 : Int} (H : Q101 N x1) : Rn 101 [.ref 40, .int (J x1)] (hs E (jm N)) (some (.int (J (G101 N x1)))) (hs E (jm N)) := by
  have h := s101 (E := E) (M := jm N) (x1 := J x1) (p101 H)
  rw [t101 H] at h
  exact h
-- 102 GlassWires$Palette shrunk (II)I
theorem v102_0 {E : gw_N} {N : NM} {res : Option Value × gw_H} {x1 : Int} {x2 : Int} (H : ((0 ≤ ((3 * x1) + 1) ∧ ((3 * x1) + 1) < 24) ∧ ((R (x2 * ((N 41) ((3 * x1) + 1)))) ∧ res = (some (.int (J (x2 - (Int.tdiv (x2 * ((N 41) ((3 * x1) + 1))) 10)))), hs E (jm N))))) : Ev 1 102 0 [some (.ref 40), some (.int (J x1)), some (.int (J x2))] [] (hs E (jm N)) res := by
  refine w102_0 ?_
  obtain ⟨q1, H⟩ := H
  refine ⟨inb_J (add_J (mul_J jl_3 rfl) jl_1) q1 (by decide), ?_⟩
  obtain ⟨q2, H⟩ := H
  exact H.trans (rt_i (sub_J rfl (div_J (mul_J rfl (rd_J (jf_base _ _) (add_J (mul_J jl_3 rfl) jl_1) q1 (by decide))) jl_10 q2 (by decide) (by decide))) rfl)
def G102 (N : NM) (x1 : Int) (x2 : Int) : Int := (x2 - (Int.tdiv (x2 * ((N 41) ((3 * x1) + 1))) 10))
def Q102 (N : NM) (x1 : Int) (x2 : Int) : Prop := ((0 ≤ ((3 * x1) + 1) ∧ ((3 * x1) + 1) < 24) ∧ ((R (x2 * ((N 41) ((3 * x1) + 1)))) ∧ True))
theorem t102 {N : NM} {x1 : Int} {x2 : Int} (H : Q102 N x1 x2) : F102 (jm N) (J x1) (J x2) = J (G102 N x1 x2) := by
  unfold Q102 at H
  unfold F102 G102
  obtain ⟨q1, H⟩ := H
  obtain ⟨q2, H⟩ := H
  exact (sub_J rfl (div_J (mul_J rfl (rd_J (jf_base _ _) (add_J (mul_J jl_3 rfl) jl_1) q1 (by decide))) jl_10 q2 (by decide) (by decide)))
theorem p102 {N : NM} {x1 : Int} {x2 : Int} (H : Q102 N x1 x2) : P102 (jm N) (J x1) (J x2) := by
  unfold Q102 at H
  unfold P102
  obtain ⟨q1, H⟩ := H
  exact inb_J (add_J (mul_J jl_3 rfl) jl_1) q1 (by decide)
theorem sz102 {E : gw_N} {N : NM} {x1 : Int} {x2 : Int} (H : Q102 N x1 x2) : Rn 102 [.ref 40, .int (J x1), .int (J x2)] (hs E (jm N)) (some (.int (J (G102 N x1 x2)))) (hs E (jm N)) := by
  have h := s102 (E := E) (M := jm N) (x1 := J x1) (x2 := J x2) (p102 H)
  rw [t102 H] at h
  exact h
-- 103 GlassWires$Palette wall ()I
theorem v103_0 {E : gw_N} {N : NM} {res : Option Value × gw_H}  (H : res = (some (.int (J ((N 43) 0))), hs E (jm N))) : Ev 1 103 0 [some (.ref 40)] [] (hs E (jm N)) res := by
  refine w103_0 ?_
  refine ⟨inb_J jl_0 (by decide : (0 : Int) ≤ 0 ∧ (0 : Int) < 3) (by decide), ?_⟩
  exact H.trans (rt_i (rd_J (jf_base _ _) jl_0 (by decide : (0 : Int) ≤ 0 ∧ (0 : Int) < 3) (by decide)) rfl)
def G103 (N : NM) : Int := ((N 43) 0)
def Q103 (N : NM) : Prop := True
theorem t103 {N : NM} (H : Q103 N) : F103 (jm N) = J (G103 N) := by
  unfold Q103 at H
  unfold F103 G103
  exact (rd_J (jf_base _ _) jl_0 (by decide : (0 : Int) ≤ 0 ∧ (0 : Int) < 3) (by decide))
theorem p103 {N : NM} (H : Q103 N) : P103 (jm N) := by
  unfold Q103 at H
  unfold P103
  exact inb_J jl_0 (by decide : (0 : Int) ≤ 0 ∧ (0 : Int) < 3) (by decide)
theorem sz103 {E : gw_N} {N : NM} (H : Q103 N) : Rn 103 [.ref 40] (hs E (jm N)) (some (.int (J (G103 N)))) (hs E (jm N)) := by
  have h := s103 (E := E) (M := jm N) (p103 H)
  rw [t103 H] at h
  exact h
-- 104 GlassWires$Palette stiff ()I
theorem v104_0 {E : gw_N} {N : NM} {res : Option Value × gw_H}  (H : res = (some (.int (J ((N 43) 1))), hs E (jm N))) : Ev 1 104 0 [some (.ref 40)] [] (hs E (jm N)) res := by
  refine w104_0 ?_
  refine ⟨inb_J jl_1 (by decide : (0 : Int) ≤ 1 ∧ (1 : Int) < 3) (by decide), ?_⟩
  exact H.trans (rt_i (rd_J (jf_base _ _) jl_1 (by decide : (0 : Int) ≤ 1 ∧ (1 : Int) < 3) (by decide)) rfl)
def G104 (N : NM) : Int := ((N 43) 1)
def Q104 (N : NM) : Prop := True
theorem t104 {N : NM} (H : Q104 N) : F104 (jm N) = J (G104 N) := by
  unfold Q104 at H
  unfold F104 G104
  exact (rd_J (jf_base _ _) jl_1 (by decide : (0 : Int) ≤ 1 ∧ (1 : Int) < 3) (by decide))
theorem p104 {N : NM} (H : Q104 N) : P104 (jm N) := by
  unfold Q104 at H
  unfold P104
  exact inb_J jl_1 (by decide : (0 : Int) ≤ 1 ∧ (1 : Int) < 3) (by decide)
theorem sz104 {E : gw_N} {N : NM} (H : Q104 N) : Rn 104 [.ref 40] (hs E (jm N)) (some (.int (J (G104 N)))) (hs E (jm N)) := by
  have h := s104 (E := E) (M := jm N) (p104 H)
  rw [t104 H] at h
  exact h
-- 105 GlassWires$Palette bear ()I
theorem v105_0 {E : gw_N} {N : NM} {res : Option Value × gw_H}  (H : res = (some (.int (J ((N 43) 2))), hs E (jm N))) : Ev 1 105 0 [some (.ref 40)] [] (hs E (jm N)) res := by
  refine w105_0 ?_
  refine ⟨inb_J jl_2 (by decide : (0 : Int) ≤ 2 ∧ (2 : Int) < 3) (by decide), ?_⟩
  exact H.trans (rt_i (rd_J (jf_base _ _) jl_2 (by decide : (0 : Int) ≤ 2 ∧ (2 : Int) < 3) (by decide)) rfl)
def G105 (N : NM) : Int := ((N 43) 2)
def Q105 (N : NM) : Prop := True
theorem t105 {N : NM} (H : Q105 N) : F105 (jm N) = J (G105 N) := by
  unfold Q105 at H
  unfold F105 G105
  exact (rd_J (jf_base _ _) jl_2 (by decide : (0 : Int) ≤ 2 ∧ (2 : Int) < 3) (by decide))
theorem p105 {N : NM} (H : Q105 N) : P105 (jm N) := by
  unfold Q105 at H
  unfold P105
  exact inb_J jl_2 (by decide : (0 : Int) ≤ 2 ∧ (2 : Int) < 3) (by decide)
theorem sz105 {E : gw_N} {N : NM} (H : Q105 N) : Rn 105 [.ref 40] (hs E (jm N)) (some (.int (J (G105 N)))) (hs E (jm N)) := by
  have h := s105 (E := E) (M := jm N) (p105 H)
  rw [t105 H] at h
  exact h
-- 106 GlassWires$Palette areFoes (II)Z
theorem v106_0 {E : gw_N} {N : NM} {res : Option Value × gw_H} {x1 : Int} {x2 : Int} (H : ((0 ≤ x1 ∧ x1 < 8) ∧ (((zand (zshr ((N 42) x1) x2) 1) = 1 → res = (some (.int (J 1)), hs E (jm N))) ∧ (¬ (zand (zshr ((N 42) x1) x2) 1) = 1 → res = (some (.int (J 0)), hs E (jm N)))))) : Ev 1 106 0 [some (.ref 40), some (.int (J x1)), some (.int (J x2))] [] (hs E (jm N)) res := by
  refine w106_0 ?_
  obtain ⟨q1, H⟩ := H
  refine ⟨inb_J rfl q1 (by decide), ?_⟩
  refine ⟨fun hc => ?_, fun hc => ?_⟩
  · replace H := H.1 ((eq_J (zand_J (zshr_J (rd_J (jf_base _ _) rfl q1 (by decide)) rfl) jl_1) jl_1 (R_toInt _) (by decide)).mp hc)
    exact H.trans (rt_i jl_1 rfl)
  · replace H := H.2 (fun hz => hc ((eq_J (zand_J (zshr_J (rd_J (jf_base _ _) rfl q1 (by decide)) rfl) jl_1) jl_1 (R_toInt _) (by decide)).mpr hz))
    exact H.trans (rt_i jl_0 rfl)
def G106 (N : NM) (x1 : Int) (x2 : Int) : Int := (if (zand (zshr ((N 42) x1) x2) 1) = 1 then 1 else 0)
def Q106 (N : NM) (x1 : Int) (x2 : Int) : Prop := ((0 ≤ x1 ∧ x1 < 8) ∧ (((zand (zshr ((N 42) x1) x2) 1) = 1 → True) ∧ (¬ (zand (zshr ((N 42) x1) x2) 1) = 1 → True)))
theorem t106 {N : NM} {x1 : Int} {x2 : Int} (H : Q106 N x1 x2) : F106 (jm N) (J x1) (J x2) = J (G106 N x1 x2) := by
  unfold Q106 at H
  unfold F106 G106
  obtain ⟨q1, H⟩ := H
  refine ite_J (eq_J (zand_J (zshr_J (rd_J (jf_base _ _) rfl q1 (by decide)) rfl) jl_1) jl_1 (R_toInt _) (by decide)) (fun hc => ?_) (fun hc => ?_)
  · replace H := H.1 ((eq_J (zand_J (zshr_J (rd_J (jf_base _ _) rfl q1 (by decide)) rfl) jl_1) jl_1 (R_toInt _) (by decide)).mp hc)
    exact jl_1
  · replace H := H.2 (fun hz => hc ((eq_J (zand_J (zshr_J (rd_J (jf_base _ _) rfl q1 (by decide)) rfl) jl_1) jl_1 (R_toInt _) (by decide)).mpr hz))
    exact jl_0
theorem p106 {N : NM} {x1 : Int} {x2 : Int} (H : Q106 N x1 x2) : P106 (jm N) (J x1) (J x2) := by
  unfold Q106 at H
  unfold P106
  obtain ⟨q1, H⟩ := H
  exact inb_J rfl q1 (by decide)
theorem sz106 {E : gw_N} {N : NM} {x1 : Int} {x2 : Int} (H : Q106 N x1 x2) : Rn 106 [.ref 40, .int (J x1), .int (J x2)] (hs E (jm N)) (some (.int (J (G106 N x1 x2)))) (hs E (jm N)) := by
  have h := s106 (E := E) (M := jm N) (x1 := J x1) (x2 := J x2) (p106 H)
  rw [t106 H] at h
  exact h
-- 107 GlassWires$Palette setFoes (IIZ)V
theorem v107_0 {E : gw_N} {N : NM} {res : Option Value × gw_H} {x1 : Int} {x2 : Int} {x3 : Int} (H : ((R x3) ∧ ((x3 = 0 → ((0 ≤ x1 ∧ x1 < 8) ∧ ((x3 = 0 → ((0 ≤ x2 ∧ x2 < 8) ∧ res = (none, hs E (jm (upZ N 42 (updZ (updZ (N 42) x1 (zand ((N 42) x1) (zxor (zshl 1 x2) (-1)))) x2 (zand ((updZ (N 42) x1 (zand ((N 42) x1) (zxor (zshl 1 x2) (-1)))) x2) (zxor (zshl 1 x1) (-1))))))))) ∧ (¬ x3 = 0 → ((0 ≤ x2 ∧ x2 < 8) ∧ res = (none, hs E (jm (upZ N 42 (updZ (updZ (N 42) x1 (zand ((N 42) x1) (zxor (zshl 1 x2) (-1)))) x2 (zor ((updZ (N 42) x1 (zand ((N 42) x1) (zxor (zshl 1 x2) (-1)))) x2) (zshl 1 x1))))))))))) ∧ (¬ x3 = 0 → ((0 ≤ x1 ∧ x1 < 8) ∧ ((x3 = 0 → ((0 ≤ x2 ∧ x2 < 8) ∧ res = (none, hs E (jm (upZ N 42 (updZ (updZ (N 42) x1 (zor ((N 42) x1) (zshl 1 x2))) x2 (zand ((updZ (N 42) x1 (zor ((N 42) x1) (zshl 1 x2))) x2) (zxor (zshl 1 x1) (-1))))))))) ∧ (¬ x3 = 0 → ((0 ≤ x2 ∧ x2 < 8) ∧ res = (none, hs E (jm (upZ N 42 (updZ (updZ (N 42) x1 (zor ((N 42) x1) (zshl 1 x2))) x2 (zor ((updZ (N 42) x1 (zor ((N 42) x1) (zshl 1 x2))) x2) (zshl 1 x1)))))))))))))) : Ev 1 107 0 [some (.ref 40), some (.int (J x1)), some (.int (J x2)), some (.int (J x3))] [] (hs E (jm N)) res := by
  refine w107_0 ?_
  obtain ⟨q1, H⟩ := H
  refine ⟨fun hc => ?_, fun hc => ?_⟩
  · replace H := H.1 ((eq_J rfl jl_0 q1 (by decide)).mp hc)
    obtain ⟨q2, H⟩ := H
    refine ⟨inb_J rfl q2 (by decide), ?_⟩
    refine ⟨inb_J rfl q2 (by decide), ?_⟩
    refine ⟨fun hc => ?_, fun hc => ?_⟩
    · replace H := H.1 ((eq_J rfl jl_0 q1 (by decide)).mp hc)
      obtain ⟨q3, H⟩ := H
      refine ⟨inb_J rfl q3 (by decide), ?_⟩
      refine ⟨inb_J rfl q3 (by decide), ?_⟩
      exact H.trans (rt_n (jm_up rfl (jf_upd (jf_upd (jf_base _ _) rfl q2 (by decide) (zand_J (rd_J (jf_base _ _) rfl q2 (by decide)) (zxor_J (zshl_J jl_1 rfl) jl_m1))) rfl q3 (by decide) (zand_J (rd_J (jf_upd (jf_base _ _) rfl q2 (by decide) (zand_J (rd_J (jf_base _ _) rfl q2 (by decide)) (zxor_J (zshl_J jl_1 rfl) jl_m1))) rfl q3 (by decide)) (zxor_J (zshl_J jl_1 rfl) jl_m1)))))
    · replace H := H.2 (fun hz => hc ((eq_J rfl jl_0 q1 (by decide)).mpr hz))
      obtain ⟨q4, H⟩ := H
      refine ⟨inb_J rfl q4 (by decide), ?_⟩
      refine ⟨inb_J rfl q4 (by decide), ?_⟩
      exact H.trans (rt_n (jm_up rfl (jf_upd (jf_upd (jf_base _ _) rfl q2 (by decide) (zand_J (rd_J (jf_base _ _) rfl q2 (by decide)) (zxor_J (zshl_J jl_1 rfl) jl_m1))) rfl q4 (by decide) (zor_J (rd_J (jf_upd (jf_base _ _) rfl q2 (by decide) (zand_J (rd_J (jf_base _ _) rfl q2 (by decide)) (zxor_J (zshl_J jl_1 rfl) jl_m1))) rfl q4 (by decide)) (zshl_J jl_1 rfl)))))
  · replace H := H.2 (fun hz => hc ((eq_J rfl jl_0 q1 (by decide)).mpr hz))
    obtain ⟨q5, H⟩ := H
    refine ⟨inb_J rfl q5 (by decide), ?_⟩
    refine ⟨inb_J rfl q5 (by decide), ?_⟩
    refine ⟨fun hc => ?_, fun hc => ?_⟩
    · replace H := H.1 ((eq_J rfl jl_0 q1 (by decide)).mp hc)
      obtain ⟨q6, H⟩ := H
      refine ⟨inb_J rfl q6 (by decide), ?_⟩
      refine ⟨inb_J rfl q6 (by decide), ?_⟩
      exact H.trans (rt_n (jm_up rfl (jf_upd (jf_upd (jf_base _ _) rfl q5 (by decide) (zor_J (rd_J (jf_base _ _) rfl q5 (by decide)) (zshl_J jl_1 rfl))) rfl q6 (by decide) (zand_J (rd_J (jf_upd (jf_base _ _) rfl q5 (by decide) (zor_J (rd_J (jf_base _ _) rfl q5 (by decide)) (zshl_J jl_1 rfl))) rfl q6 (by decide)) (zxor_J (zshl_J jl_1 rfl) jl_m1)))))
    · replace H := H.2 (fun hz => hc ((eq_J rfl jl_0 q1 (by decide)).mpr hz))
      obtain ⟨q7, H⟩ := H
      refine ⟨inb_J rfl q7 (by decide), ?_⟩
      refine ⟨inb_J rfl q7 (by decide), ?_⟩
      exact H.trans (rt_n (jm_up rfl (jf_upd (jf_upd (jf_base _ _) rfl q5 (by decide) (zor_J (rd_J (jf_base _ _) rfl q5 (by decide)) (zshl_J jl_1 rfl))) rfl q7 (by decide) (zor_J (rd_J (jf_upd (jf_base _ _) rfl q5 (by decide) (zor_J (rd_J (jf_base _ _) rfl q5 (by decide)) (zshl_J jl_1 rfl))) rfl q7 (by decide)) (zshl_J jl_1 rfl)))))
-- 111 GlassWires$Plan allows (I)Z
theorem v111_0 {E : gw_N} {N : NM} {res : Option Value × gw_H} {x0 : Int} (H : ((R x0) ∧ ((x0 < 0 → res = (some (.int (J 0)), hs E (jm N))) ∧ (¬ x0 < 0 → (((255 : Int) < x0 → res = (some (.int (J 0)), hs E (jm N))) ∧ (¬ (255 : Int) < x0 → res = (some (.int (J 1)), hs E (jm N)))))))) : Ev 1 111 0 [some (.int (J x0))] [] (hs E (jm N)) res := by
  refine w111_0 ?_
  obtain ⟨q1, H⟩ := H
  refine ⟨fun hc => ?_, fun hc => ?_⟩
  · replace H := H.1 ((lt_J rfl jl_0 q1 (by decide)).mp hc)
    exact H.trans (rt_i jl_0 rfl)
  · replace H := H.2 (fun hz => hc ((lt_J rfl jl_0 q1 (by decide)).mpr hz))
    refine ⟨fun hc => ?_, fun hc => ?_⟩
    · replace H := H.1 ((lt_J jl_255 rfl (by decide) q1).mp hc)
      exact H.trans (rt_i jl_0 rfl)
    · replace H := H.2 (fun hz => hc ((lt_J jl_255 rfl (by decide) q1).mpr hz))
      exact H.trans (rt_i jl_1 rfl)
def G111 (N : NM) (x0 : Int) : Int := (if x0 < 0 then 0 else (if (255 : Int) < x0 then 0 else 1))
def Q111 (N : NM) (x0 : Int) : Prop := ((R x0) ∧ ((x0 < 0 → True) ∧ (¬ x0 < 0 → (((255 : Int) < x0 → True) ∧ (¬ (255 : Int) < x0 → True)))))
theorem t111 {N : NM} {x0 : Int} (H : Q111 N x0) : F111 (jm N) (J x0) = J (G111 N x0) := by
  unfold Q111 at H
  unfold F111 G111
  obtain ⟨q1, H⟩ := H
  refine ite_J (lt_J rfl jl_0 q1 (by decide)) (fun hc => ?_) (fun hc => ?_)
  · replace H := H.1 ((lt_J rfl jl_0 q1 (by decide)).mp hc)
    exact jl_0
  · replace H := H.2 (fun hz => hc ((lt_J rfl jl_0 q1 (by decide)).mpr hz))
    refine ite_J (lt_J jl_255 rfl (by decide) q1) (fun hc => ?_) (fun hc => ?_)
    · replace H := H.1 ((lt_J jl_255 rfl (by decide) q1).mp hc)
      exact jl_0
    · replace H := H.2 (fun hz => hc ((lt_J jl_255 rfl (by decide) q1).mpr hz))
      exact jl_1
theorem sz111 {E : gw_N} {N : NM} {x0 : Int} (H : Q111 N x0) : Rn 111 [.int (J x0)] (hs E (jm N)) (some (.int (J (G111 N x0)))) (hs E (jm N)) := by
  have h := s111 (E := E) (M := jm N) (x0 := J x0)
  rw [t111 H] at h
  exact h
-- 114 GlassWires$Plan serve (II)V
theorem v114_0 {E : gw_N} {N : NM} {res : Option Value × gw_H} {x1 : Int} {x2 : Int} (H : Ev 1 114 5 [some (.ref 50), some (.int (J x1)), none, some (.int (J x2)), some (.int (J 0))] [] (hs E (jm N)) res) : Ev 1 114 0 [some (.ref 50), some (.int (J x1)), some (.int (J x2)), none, none] [] (hs E (jm N)) res := by
  refine w114_0 ?_
  exact Ev_to (clx (cli rfl (clx (cli rfl (cli jl_0 rfl))))) rfl rfl H
theorem v114_5 {E : gw_N} {N : NM} {res : Option Value × gw_H} {x1 : Int} {x3 : Int} {x4 : Int} (H : ((R ((N 50) 3)) ∧ ((R x4) ∧ ((((N 50) 3) ≤ x4 → ((R x3) ∧ ((x3 ≤ 0 → res = (none, hs E (jm N))) ∧ (¬ x3 ≤ 0 → (((8 : Int) ≤ ((N 50) 3) → res = (none, hs E (jm N))) ∧ (¬ (8 : Int) ≤ ((N 50) 3) → ((0 ≤ ((N 50) 3) ∧ ((N 50) 3) < 8) ∧ res = (none, hs E (jm (upZ (upZ (upZ N 51 (updZ (N 51) ((N 50) 3) (x1 + 50))) 52 (updZ (N 52) ((N 50) 3) x3)) 50 (updZ (N 50) 3 (((N 50) 3) + 1)))))))))))) ∧ (¬ ((N 50) 3) ≤ x4 → ((0 ≤ x4 ∧ x4 < 8) ∧ ((R ((N 51) x4)) ∧ ((R x1) ∧ ((((N 51) x4) < x1 → Ev 1 114 5 [some (.ref 50), some (.int (J x1)), none, some (.int (J x3)), some (.int (J (x4 + 1)))] [] (hs E (jm N)) res) ∧ (¬ ((N 51) x4) < x1 → Ev 1 114 5 [some (.ref 50), some (.int (J x1)), none, some (.int (J (x3 - ((N 52) x4)))), some (.int (J (x4 + 1)))] [] (hs E (jm N)) res)))))))))) : Ev 1 114 5 [some (.ref 50), some (.int (J x1)), none, some (.int (J x3)), some (.int (J x4))] [] (hs E (jm N)) res := by
  refine w114_5 ?_
  obtain ⟨q1, q2, H⟩ := H
  refine ⟨fun hc => ?_, fun hc => ?_⟩
  · replace H := H.1 ((le_J (fld_J (jf_base _ _)) rfl q1 q2).mp hc)
    obtain ⟨q3, H⟩ := H
    refine ⟨fun hc => ?_, fun hc => ?_⟩
    · replace H := H.1 ((le_J rfl jl_0 q3 (by decide)).mp hc)
      exact H.trans (rt_n rfl)
    · replace H := H.2 (fun hz => hc ((le_J rfl jl_0 q3 (by decide)).mpr hz))
      refine ⟨fun hc => ?_, fun hc => ?_⟩
      · replace H := H.1 ((le_J jl_8 (fld_J (jf_base _ _)) (by decide) q1).mp hc)
        exact H.trans (rt_n rfl)
      · replace H := H.2 (fun hz => hc ((le_J jl_8 (fld_J (jf_base _ _)) (by decide) q1).mpr hz))
        obtain ⟨q4, H⟩ := H
        refine ⟨inb_J (fld_J (jf_base _ _)) q4 (by decide), ?_⟩
        refine ⟨inb_J (fld_J (jf_base _ _)) q4 (by decide), ?_⟩
        exact H.trans (rt_n (jm_up (jm_up (jm_up rfl (jf_upd (jf_base _ _) (fld_J (jf_base _ _)) q4 (by decide) (add_J rfl jl_50))) (jf_upd (jf_base _ _) (fld_J (jf_base _ _)) q4 (by decide) rfl)) (jf_updk (jf_base _ _) (add_J (fld_J (jf_base _ _)) jl_1))))
  · replace H := H.2 (fun hz => hc ((le_J (fld_J (jf_base _ _)) rfl q1 q2).mpr hz))
    obtain ⟨q5, H⟩ := H
    refine ⟨inb_J rfl q5 (by decide), ?_⟩
    obtain ⟨q6, q7, H⟩ := H
    refine ⟨fun hc => ?_, fun hc => ?_⟩
    · replace H := H.1 ((lt_J (rd_J (jf_base _ _) rfl q5 (by decide)) rfl q6 q7).mp hc)
      exact Ev_to (clx (cli rfl (clx (cli rfl (cli (add_J rfl jl_1) rfl))))) rfl rfl H
    · replace H := H.2 (fun hz => hc ((lt_J (rd_J (jf_base _ _) rfl q5 (by decide)) rfl q6 q7).mpr hz))
      refine ⟨inb_J rfl q5 (by decide), ?_⟩
      exact Ev_to (clx (cli rfl (clx (cli (sub_J rfl (rd_J (jf_base _ _) rfl q5 (by decide))) (cli (add_J rfl jl_1) rfl))))) rfl rfl H
-- 115 GlassWires$Plan total ()I
theorem v115_0 {E : gw_N} {N : NM} {res : Option Value × gw_H}  (H : Ev 1 115 4 [some (.ref 50), some (.int (J 0)), some (.int (J 0))] [] (hs E (jm N)) res) : Ev 1 115 0 [some (.ref 50), none, none] [] (hs E (jm N)) res := by
  refine w115_0 ?_
  exact Ev_to (clx (cli jl_0 (cli jl_0 rfl))) rfl rfl H
theorem v115_4 {E : gw_N} {N : NM} {res : Option Value × gw_H} {x1 : Int} {x2 : Int} (H : ((R ((N 50) 3)) ∧ ((R x2) ∧ ((((N 50) 3) ≤ x2 → res = (some (.int (J x1)), hs E (jm N))) ∧ (¬ ((N 50) 3) ≤ x2 → ((0 ≤ x2 ∧ x2 < 8) ∧ Ev 1 115 4 [some (.ref 50), some (.int (J (x1 + ((N 52) x2)))), some (.int (J (x2 + 1)))] [] (hs E (jm N)) res)))))) : Ev 1 115 4 [some (.ref 50), some (.int (J x1)), some (.int (J x2))] [] (hs E (jm N)) res := by
  refine w115_4 ?_
  obtain ⟨q1, q2, H⟩ := H
  refine ⟨fun hc => ?_, fun hc => ?_⟩
  · replace H := H.1 ((le_J (fld_J (jf_base _ _)) rfl q1 q2).mp hc)
    exact H.trans (rt_i rfl rfl)
  · replace H := H.2 (fun hz => hc ((le_J (fld_J (jf_base _ _)) rfl q1 q2).mpr hz))
    obtain ⟨q3, H⟩ := H
    refine ⟨inb_J rfl q3 (by decide), ?_⟩
    exact Ev_to (clx (cli (add_J rfl (rd_J (jf_base _ _) rfl q3 (by decide))) (cli (add_J rfl jl_1) rfl))) rfl rfl H
-- 116 GlassWires$Plan heatAt (I)I
theorem v116_0 {E : gw_N} {N : NM} {res : Option Value × gw_H} {x1 : Int} (H : ((R x1) ∧ (((0 : Int) ≤ x1 → Ev 1 116 15 [some (.ref 50), none, some (.int (J x1)), some (.int (J (((N 50) 3) - 1)))] [] (hs E (jm N)) res) ∧ (¬ (0 : Int) ≤ x1 → res = (some (.int (J (-1))), hs E (jm N)))))) : Ev 1 116 0 [some (.ref 50), some (.int (J x1)), none, none] [] (hs E (jm N)) res := by
  refine w116_0 ?_
  obtain ⟨q1, H⟩ := H
  refine ⟨fun hc => ?_, fun hc => ?_⟩
  · replace H := H.1 ((le_J jl_0 rfl (by decide) q1).mp hc)
    exact Ev_to (clx (clx (cli rfl (cli (sub_J (fld_J (jf_base _ _)) jl_1) rfl)))) rfl rfl H
  · replace H := H.2 (fun hz => hc ((le_J jl_0 rfl (by decide) q1).mpr hz))
    exact H.trans (rt_i jl_m1 rfl)
theorem v116_15 {E : gw_N} {N : NM} {res : Option Value × gw_H} {x2 : Int} {x3 : Int} (H : ((R x3) ∧ ((x3 < 0 → res = (some (.int (J (-1))), hs E (jm N))) ∧ (¬ x3 < 0 → ((0 ≤ x3 ∧ x3 < 8) ∧ ((R ((N 52) x3)) ∧ ((R x2) ∧ ((((N 52) x3) ≤ x2 → Ev 1 116 15 [some (.ref 50), none, some (.int (J (x2 - ((N 52) x3)))), some (.int (J (x3 + (-1))))] [] (hs E (jm N)) res) ∧ (¬ ((N 52) x3) ≤ x2 → res = (some (.int (J ((N 51) x3))), hs E (jm N))))))))))) : Ev 1 116 15 [some (.ref 50), none, some (.int (J x2)), some (.int (J x3))] [] (hs E (jm N)) res := by
  refine w116_15 ?_
  obtain ⟨q1, H⟩ := H
  refine ⟨fun hc => ?_, fun hc => ?_⟩
  · replace H := H.1 ((lt_J rfl jl_0 q1 (by decide)).mp hc)
    exact H.trans (rt_i jl_m1 rfl)
  · replace H := H.2 (fun hz => hc ((lt_J rfl jl_0 q1 (by decide)).mpr hz))
    obtain ⟨q2, H⟩ := H
    refine ⟨inb_J rfl q2 (by decide), ?_⟩
    obtain ⟨q3, q4, H⟩ := H
    refine ⟨fun hc => ?_, fun hc => ?_⟩
    · replace H := H.1 ((le_J (rd_J (jf_base _ _) rfl q2 (by decide)) rfl q3 q4).mp hc)
      refine ⟨inb_J rfl q2 (by decide), ?_⟩
      exact Ev_to (clx (clx (cli (sub_J rfl (rd_J (jf_base _ _) rfl q2 (by decide))) (cli (add_J rfl jl_m1) rfl)))) rfl rfl H
    · replace H := H.2 (fun hz => hc ((le_J (rd_J (jf_base _ _) rfl q2 (by decide)) rfl q3 q4).mpr hz))
      refine ⟨inb_J rfl q2 (by decide), ?_⟩
      exact H.trans (rt_i (rd_J (jf_base _ _) rfl q2 (by decide)) rfl)
-- 118 GlassWires$Rods clear ()V
theorem v118_0 {E : gw_N} {N : NM} {res : Option Value × gw_H}  (H : res = (none, hs E (jm (upZ N 54 (updZ (N 54) 4 0))))) : Ev 1 118 0 [some (.ref 54)] [] (hs E (jm N)) res := by
  refine w118_0 ?_
  exact H.trans (rt_n (jm_up rfl (jf_updk (jf_base _ _) jl_0)))
-- 119 GlassWires$Rods kinds ()I
theorem v119_0 {E : gw_N} {N : NM} {res : Option Value × gw_H}  (H : res = (some (.int (J ((N 54) 4))), hs E (jm N))) : Ev 1 119 0 [some (.ref 54)] [] (hs E (jm N)) res := by
  refine w119_0 ?_
  exact H.trans (rt_i (fld_J (jf_base _ _)) rfl)
def G119 (N : NM) : Int := ((N 54) 4)
theorem t119 {N : NM} : F119 (jm N) = J (G119 N) := by
  have H : True := trivial
  unfold F119 G119
  exact (fld_J (jf_base _ _))
theorem sz119 {E : gw_N} {N : NM} : Rn 119 [.ref 54] (hs E (jm N)) (some (.int (J (G119 N)))) (hs E (jm N)) := by
  have h := s119 (E := E) (M := jm N)
  rw [t119] at h
  exact h
-- 120 GlassWires$Rods add (II)I
theorem v120_0 {E : gw_N} {N : NM} {res : Option Value × gw_H} {x1 : Int} {x2 : Int} (H : ((R x1) ∧ ((x1 < 1 → res = (some (.int (J (-102))), hs E (jm N))) ∧ (¬ x1 < 1 → (((99 : Int) < x1 → res = (some (.int (J (-102))), hs E (jm N))) ∧ (¬ (99 : Int) < x1 → ((R x2) ∧ ((x2 < 0 → res = (some (.int (J (-102))), hs E (jm N))) ∧ (¬ x2 < 0 → ((x2 ≤ 20 → ((R ((N 54) 4)) ∧ ((((N 54) 4) < 8 → ((0 ≤ ((N 54) 4) ∧ ((N 54) 4) < 8) ∧ res = (some (.int (J (((updZ (N 54) 4 (((N 54) 4) + 1)) 4) - 1))), hs E (jm (upZ (upZ (upZ N 55 (updZ (N 55) ((N 54) 4) x1)) 56 (updZ (N 56) ((N 54) 4) x2)) 54 (updZ (N 54) 4 (((N 54) 4) + 1))))))) ∧ (¬ ((N 54) 4) < 8 → res = (some (.int (J (-104))), hs E (jm N)))))) ∧ (¬ x2 ≤ 20 → res = (some (.int (J (-102))), hs E (jm N))))))))))))) : Ev 1 120 0 [some (.ref 54), some (.int (J x1)), some (.int (J x2))] [] (hs E (jm N)) res := by
  refine w120_0 ?_
  obtain ⟨q1, H⟩ := H
  refine ⟨fun hc => ?_, fun hc => ?_⟩
  · replace H := H.1 ((lt_J rfl jl_1 q1 (by decide)).mp hc)
    exact H.trans (rt_i jl_m102 rfl)
  · replace H := H.2 (fun hz => hc ((lt_J rfl jl_1 q1 (by decide)).mpr hz))
    refine ⟨fun hc => ?_, fun hc => ?_⟩
    · replace H := H.1 ((lt_J jl_99 rfl (by decide) q1).mp hc)
      exact H.trans (rt_i jl_m102 rfl)
    · replace H := H.2 (fun hz => hc ((lt_J jl_99 rfl (by decide) q1).mpr hz))
      obtain ⟨q2, H⟩ := H
      refine ⟨fun hc => ?_, fun hc => ?_⟩
      · replace H := H.1 ((lt_J rfl jl_0 q2 (by decide)).mp hc)
        exact H.trans (rt_i jl_m102 rfl)
      · replace H := H.2 (fun hz => hc ((lt_J rfl jl_0 q2 (by decide)).mpr hz))
        refine ⟨fun hc => ?_, fun hc => ?_⟩
        · replace H := H.1 ((le_J rfl jl_20 q2 (by decide)).mp hc)
          obtain ⟨q3, H⟩ := H
          refine ⟨fun hc => ?_, fun hc => ?_⟩
          · replace H := H.1 ((lt_J (fld_J (jf_base _ _)) jl_8 q3 (by decide)).mp hc)
            obtain ⟨q4, H⟩ := H
            refine ⟨inb_J (fld_J (jf_base _ _)) q4 (by decide), ?_⟩
            refine ⟨inb_J (fld_J (jf_base _ _)) q4 (by decide), ?_⟩
            exact H.trans (rt_i (sub_J (fld_J (jf_updk (jf_base _ _) (add_J (fld_J (jf_base _ _)) jl_1))) jl_1) (jm_up (jm_up (jm_up rfl (jf_upd (jf_base _ _) (fld_J (jf_base _ _)) q4 (by decide) rfl)) (jf_upd (jf_base _ _) (fld_J (jf_base _ _)) q4 (by decide) rfl)) (jf_updk (jf_base _ _) (add_J (fld_J (jf_base _ _)) jl_1))))
          · replace H := H.2 (fun hz => hc ((lt_J (fld_J (jf_base _ _)) jl_8 q3 (by decide)).mpr hz))
            exact H.trans (rt_i jl_m104 rfl)
        · replace H := H.2 (fun hz => hc ((le_J rfl jl_20 q2 (by decide)).mpr hz))
          exact H.trans (rt_i jl_m102 rfl)
-- 126 GlassWires$Rods useRod (II)Z
theorem v126_0 {E : gw_N} {N : NM} {res : Option Value × gw_H} {x1 : Int} {x2 : Int} (H : Ev 1 126 5 [some (.ref 54), some (.int (J x1)), none, some (.int (J 0)), some (.int (J x2)), none, none] [] (hs E (jm N)) res) : Ev 1 126 0 [some (.ref 54), some (.int (J x1)), some (.int (J x2)), none, none, none, none] [] (hs E (jm N)) res := by
  refine w126_0 ?_
  exact Ev_to (clx (cli rfl (clx (cli jl_0 (cli rfl (clx (clx rfl))))))) rfl rfl H
theorem v126_5 {E : gw_N} {N : NM} {res : Option Value × gw_H} {x1 : Int} {x3 : Int} {x4 : Int} (H : ((R x4) ∧ ((x4 ≤ 0 → ((x3 = 0 ∨ x3 = 1) ∧ res = (some (.int (J x3)), hs E (jm N)))) ∧ (¬ x4 ≤ 0 → Ev 1 126 14 [some (.ref 54), some (.int (J x1)), none, some (.int (J x3)), some (.int (J x4)), some (.int (J x4)), none] [] (hs E (jm N)) res)))) : Ev 1 126 5 [some (.ref 54), some (.int (J x1)), none, some (.int (J x3)), some (.int (J x4)), none, none] [] (hs E (jm N)) res := by
  refine w126_5 ?_
  obtain ⟨q1, H⟩ := H
  refine ⟨fun hc => ?_, fun hc => ?_⟩
  · replace H := H.1 ((le_J rfl jl_0 q1 (by decide)).mp hc)
    obtain ⟨q2, H⟩ := H
    refine ⟨bb_J rfl q2, ?_⟩
    exact H.trans (rt_i rfl rfl)
  · replace H := H.2 (fun hz => hc ((le_J rfl jl_0 q1 (by decide)).mpr hz))
    exact Ev_to (clx (cli rfl (clx (cli rfl (cli rfl (cli rfl (clx rfl))))))) rfl rfl H
theorem v126_14 {E : gw_N} {N : NM} {res : Option Value × gw_H} {x1 : Int} {x3 : Int} {x4 : Int} {x5 : Int} (H : ((R x5) ∧ ((x5 ≤ 0 → Ev 1 126 5 [some (.ref 54), some (.int (J x1)), none, some (.int (J x3)), some (.int (J (x4 + (-1)))), none, none] [] (hs E (jm N)) res) ∧ (¬ x5 ≤ 0 → ((0 ≤ (zxor x4 x5) ∧ (zxor x4 x5) < 256) ∧ ((0 ≤ x5 ∧ x5 < 256) ∧ ((R x1) ∧ ((R ((N 57) x5)) ∧ ((x1 < ((N 57) x5) → Ev 1 126 14 [some (.ref 54), some (.int (J x1)), none, some (.int (J x3)), some (.int (J x4)), some (.int (J (zand (x5 - 1) x4))), none] [] (hs E (jm N)) res) ∧ (¬ x1 < ((N 57) x5) → ((0 ≤ x4 ∧ x4 < 256) ∧ ((R ((N 58) x4)) ∧ ((R ((((N 58) (zxor x4 x5)) + 1000) + x1)) ∧ ((((N 58) x4) ≤ ((((N 58) (zxor x4 x5)) + 1000) + x1) → Ev 1 126 14 [some (.ref 54), some (.int (J x1)), none, some (.int (J x3)), some (.int (J x4)), some (.int (J (zand (x5 - 1) x4))), none] [] (hs E (jm N)) res) ∧ (¬ ((N 58) x4) ≤ ((((N 58) (zxor x4 x5)) + 1000) + x1) → Ev 1 126 14 [some (.ref 54), some (.int (J x1)), none, some (.int (J 1)), some (.int (J x4)), some (.int (J (zand (x5 - 1) x4))), none] [] (hs E (jm (upZ N 58 (updZ (N 58) x4 ((((N 58) (zxor x4 x5)) + 1000) + x1))))) res))))))))))))))) : Ev 1 126 14 [some (.ref 54), some (.int (J x1)), none, some (.int (J x3)), some (.int (J x4)), some (.int (J x5)), none] [] (hs E (jm N)) res := by
  refine w126_14 ?_
  obtain ⟨q1, H⟩ := H
  refine ⟨fun hc => ?_, fun hc => ?_⟩
  · replace H := H.1 ((le_J rfl jl_0 q1 (by decide)).mp hc)
    exact Ev_to (clx (cli rfl (clx (cli rfl (cli (add_J rfl jl_m1) (clx (clx rfl))))))) rfl rfl H
  · replace H := H.2 (fun hz => hc ((le_J rfl jl_0 q1 (by decide)).mpr hz))
    obtain ⟨q2, H⟩ := H
    refine ⟨inb_J (zxor_J rfl rfl) q2 (by decide), ?_⟩
    obtain ⟨q3, H⟩ := H
    refine ⟨inb_J rfl q3 (by decide), ?_⟩
    obtain ⟨q4, q5, H⟩ := H
    refine ⟨fun hc => ?_, fun hc => ?_⟩
    · replace H := H.1 ((lt_J rfl (rd_J (jf_base _ _) rfl q3 (by decide)) q4 q5).mp hc)
      exact Ev_to (clx (cli rfl (clx (cli rfl (cli rfl (cli (zand_J (sub_J rfl jl_1) rfl) (clx rfl))))))) rfl rfl H
    · replace H := H.2 (fun hz => hc ((lt_J rfl (rd_J (jf_base _ _) rfl q3 (by decide)) q4 q5).mpr hz))
      obtain ⟨q6, H⟩ := H
      refine ⟨inb_J rfl q6 (by decide), ?_⟩
      obtain ⟨q7, q8, H⟩ := H
      refine ⟨fun hc => ?_, fun hc => ?_⟩
      · replace H := H.1 ((le_J (rd_J (jf_base _ _) rfl q6 (by decide)) (add_J (add_J (rd_J (jf_base _ _) (zxor_J rfl rfl) q2 (by decide)) jl_1000) rfl) q7 q8).mp hc)
        exact Ev_to (clx (cli rfl (clx (cli rfl (cli rfl (cli (zand_J (sub_J rfl jl_1) rfl) (clx rfl))))))) rfl rfl H
      · replace H := H.2 (fun hz => hc ((le_J (rd_J (jf_base _ _) rfl q6 (by decide)) (add_J (add_J (rd_J (jf_base _ _) (zxor_J rfl rfl) q2 (by decide)) jl_1000) rfl) q7 q8).mpr hz))
        refine ⟨inb_J rfl q6 (by decide), ?_⟩
        exact Ev_to (clx (cli rfl (clx (cli jl_1 (cli rfl (cli (zand_J (sub_J rfl jl_1) rfl) (clx rfl))))))) rfl (jm_up rfl (jf_upd (jf_base _ _) rfl q6 (by decide) (add_J (add_J (rd_J (jf_base _ _) (zxor_J rfl rfl) q2 (by decide)) jl_1000) rfl))) H
-- 129 GlassWires$Tension setBack (II)V
theorem v129_0 {E : gw_N} {N : NM} {res : Option Value × gw_H} {x1 : Int} {x2 : Int} (H : res = (none, hs E (jm (upZ N 53 (updZ (updZ (N 53) 3 x1) 4 x2))))) : Ev 1 129 0 [some (.ref 53), some (.int (J x1)), some (.int (J x2))] [] (hs E (jm N)) res := by
  refine w129_0 ?_
  exact H.trans (rt_n (jm_up rfl (jf_updk (jf_updk (jf_base _ _) rfl) rfl)))
-- 142 GlassWires$Wires clear ()V
theorem v142_0 {E : gw_N} {N : NM} {res : Option Value × gw_H}  (H : res = (none, hs E (jm (upZ N 14 (updZ (N 14) 7 0))))) : Ev 1 142 0 [some (.ref 14)] [] (hs E (jm N)) res := by
  refine w142_0 ?_
  exact H.trans (rt_n (jm_up rfl (jf_updk (jf_base _ _) jl_0)))
-- 143 GlassWires$Wires total ()I
theorem v143_0 {E : gw_N} {N : NM} {res : Option Value × gw_H}  (H : res = (some (.int (J ((N 14) 7))), hs E (jm N))) : Ev 1 143 0 [some (.ref 14)] [] (hs E (jm N)) res := by
  refine w143_0 ?_
  exact H.trans (rt_i (fld_J (jf_base _ _)) rfl)
def G143 (N : NM) : Int := ((N 14) 7)
theorem t143 {N : NM} : F143 (jm N) = J (G143 N) := by
  have H : True := trivial
  unfold F143 G143
  exact (fld_J (jf_base _ _))
theorem sz143 {E : gw_N} {N : NM} : Rn 143 [.ref 14] (hs E (jm N)) (some (.int (J (G143 N)))) (hs E (jm N)) := by
  have h := s143 (E := E) (M := jm N)
  rw [t143] at h
  exact h
-- 144 GlassWires$Wires has (I)Z
theorem v144_0 {E : gw_N} {N : NM} {res : Option Value × gw_H} {x1 : Int} (H : ((R x1) ∧ ((x1 < 0 → res = (some (.int (J 0)), hs E (jm N))) ∧ (¬ x1 < 0 → ((R ((N 14) 7)) ∧ ((((N 14) 7) ≤ x1 → res = (some (.int (J 0)), hs E (jm N))) ∧ (¬ ((N 14) 7) ≤ x1 → res = (some (.int (J 1)), hs E (jm N))))))))) : Ev 1 144 0 [some (.ref 14), some (.int (J x1))] [] (hs E (jm N)) res := by
  refine w144_0 ?_
  obtain ⟨q1, H⟩ := H
  refine ⟨fun hc => ?_, fun hc => ?_⟩
  · replace H := H.1 ((lt_J rfl jl_0 q1 (by decide)).mp hc)
    exact H.trans (rt_i jl_0 rfl)
  · replace H := H.2 (fun hz => hc ((lt_J rfl jl_0 q1 (by decide)).mpr hz))
    obtain ⟨q2, H⟩ := H
    refine ⟨fun hc => ?_, fun hc => ?_⟩
    · replace H := H.1 ((le_J (fld_J (jf_base _ _)) rfl q2 q1).mp hc)
      exact H.trans (rt_i jl_0 rfl)
    · replace H := H.2 (fun hz => hc ((le_J (fld_J (jf_base _ _)) rfl q2 q1).mpr hz))
      exact H.trans (rt_i jl_1 rfl)
def G144 (N : NM) (x1 : Int) : Int := (if x1 < 0 then 0 else (if ((N 14) 7) ≤ x1 then 0 else 1))
def Q144 (N : NM) (x1 : Int) : Prop := ((R x1) ∧ ((x1 < 0 → True) ∧ (¬ x1 < 0 → ((R ((N 14) 7)) ∧ ((((N 14) 7) ≤ x1 → True) ∧ (¬ ((N 14) 7) ≤ x1 → True))))))
theorem t144 {N : NM} {x1 : Int} (H : Q144 N x1) : F144 (jm N) (J x1) = J (G144 N x1) := by
  unfold Q144 at H
  unfold F144 G144
  obtain ⟨q1, H⟩ := H
  refine ite_J (lt_J rfl jl_0 q1 (by decide)) (fun hc => ?_) (fun hc => ?_)
  · replace H := H.1 ((lt_J rfl jl_0 q1 (by decide)).mp hc)
    exact jl_0
  · replace H := H.2 (fun hz => hc ((lt_J rfl jl_0 q1 (by decide)).mpr hz))
    obtain ⟨q2, H⟩ := H
    refine ite_J (le_J (fld_J (jf_base _ _)) rfl q2 q1) (fun hc => ?_) (fun hc => ?_)
    · replace H := H.1 ((le_J (fld_J (jf_base _ _)) rfl q2 q1).mp hc)
      exact jl_0
    · replace H := H.2 (fun hz => hc ((le_J (fld_J (jf_base _ _)) rfl q2 q1).mpr hz))
      exact jl_1
theorem sz144 {E : gw_N} {N : NM} {x1 : Int} (H : Q144 N x1) : Rn 144 [.ref 14, .int (J x1)] (hs E (jm N)) (some (.int (J (G144 N x1)))) (hs E (jm N)) := by
  have h := s144 (E := E) (M := jm N) (x1 := J x1)
  rw [t144 H] at h
  exact h
-- 145 GlassWires$Wires isLaid (I)Z
theorem v145_0 {E : gw_N} {N : NM} {res : Option Value × gw_H} {x1 : Int} (H : ((0 ≤ x1 ∧ x1 < 30) ∧ ((((N 15) x1) = 0 ∨ ((N 15) x1) = 1) ∧ res = (some (.int (J ((N 15) x1))), hs E (jm N))))) : Ev 1 145 0 [some (.ref 14), some (.int (J x1))] [] (hs E (jm N)) res := by
  refine w145_0 ?_
  obtain ⟨q1, H⟩ := H
  refine ⟨inb_J rfl q1 (by decide), ?_⟩
  obtain ⟨q2, H⟩ := H
  refine ⟨bb_J (rd_J (jf_base _ _) rfl q1 (by decide)) q2, ?_⟩
  exact H.trans (rt_i (rd_J (jf_base _ _) rfl q1 (by decide)) rfl)
def G145 (N : NM) (x1 : Int) : Int := ((N 15) x1)
def Q145 (N : NM) (x1 : Int) : Prop := ((0 ≤ x1 ∧ x1 < 30) ∧ ((((N 15) x1) = 0 ∨ ((N 15) x1) = 1) ∧ True))
theorem t145 {N : NM} {x1 : Int} (H : Q145 N x1) : F145 (jm N) (J x1) = J (G145 N x1) := by
  unfold Q145 at H
  unfold F145 G145
  obtain ⟨q1, H⟩ := H
  obtain ⟨q2, H⟩ := H
  exact (rd_J (jf_base _ _) rfl q1 (by decide))
theorem p145 {N : NM} {x1 : Int} (H : Q145 N x1) : P145 (jm N) (J x1) := by
  unfold Q145 at H
  unfold P145
  obtain ⟨q1, H⟩ := H
  refine ⟨inb_J rfl q1 (by decide), ?_⟩
  obtain ⟨q2, H⟩ := H
  exact bb_J (rd_J (jf_base _ _) rfl q1 (by decide)) q2
theorem sz145 {E : gw_N} {N : NM} {x1 : Int} (H : Q145 N x1) : Rn 145 [.ref 14, .int (J x1)] (hs E (jm N)) (some (.int (J (G145 N x1)))) (hs E (jm N)) := by
  have h := s145 (E := E) (M := jm N) (x1 := J x1) (p145 H)
  rw [t145 H] at h
  exact h
-- 146 GlassWires$Wires setLaid (IZ)V
theorem v146_0 {E : gw_N} {N : NM} {res : Option Value × gw_H} {x1 : Int} {x2 : Int} (H : ((0 ≤ x1 ∧ x1 < 30) ∧ ((x2 = 0 ∨ x2 = 1) ∧ res = (none, hs E (jm (upZ N 15 (updZ (N 15) x1 x2))))))) : Ev 1 146 0 [some (.ref 14), some (.int (J x1)), some (.int (J x2))] [] (hs E (jm N)) res := by
  refine w146_0 ?_
  obtain ⟨q1, H⟩ := H
  refine ⟨inb_J rfl q1 (by decide), ?_⟩
  obtain ⟨q2, H⟩ := H
  exact H.trans (rt_n (jm_up rfl (jf_upd (jf_base _ _) rfl q1 (by decide) (and1_J rfl q2))))
-- 147 GlassWires$Wires isSoldered (I)Z
theorem v147_0 {E : gw_N} {N : NM} {res : Option Value × gw_H} {x1 : Int} (H : ((0 ≤ x1 ∧ x1 < 30) ∧ ((((N 16) x1) = 0 ∨ ((N 16) x1) = 1) ∧ res = (some (.int (J ((N 16) x1))), hs E (jm N))))) : Ev 1 147 0 [some (.ref 14), some (.int (J x1))] [] (hs E (jm N)) res := by
  refine w147_0 ?_
  obtain ⟨q1, H⟩ := H
  refine ⟨inb_J rfl q1 (by decide), ?_⟩
  obtain ⟨q2, H⟩ := H
  refine ⟨bb_J (rd_J (jf_base _ _) rfl q1 (by decide)) q2, ?_⟩
  exact H.trans (rt_i (rd_J (jf_base _ _) rfl q1 (by decide)) rfl)
def G147 (N : NM) (x1 : Int) : Int := ((N 16) x1)
def Q147 (N : NM) (x1 : Int) : Prop := ((0 ≤ x1 ∧ x1 < 30) ∧ ((((N 16) x1) = 0 ∨ ((N 16) x1) = 1) ∧ True))
theorem t147 {N : NM} {x1 : Int} (H : Q147 N x1) : F147 (jm N) (J x1) = J (G147 N x1) := by
  unfold Q147 at H
  unfold F147 G147
  obtain ⟨q1, H⟩ := H
  obtain ⟨q2, H⟩ := H
  exact (rd_J (jf_base _ _) rfl q1 (by decide))
theorem p147 {N : NM} {x1 : Int} (H : Q147 N x1) : P147 (jm N) (J x1) := by
  unfold Q147 at H
  unfold P147
  obtain ⟨q1, H⟩ := H
  refine ⟨inb_J rfl q1 (by decide), ?_⟩
  obtain ⟨q2, H⟩ := H
  exact bb_J (rd_J (jf_base _ _) rfl q1 (by decide)) q2
theorem sz147 {E : gw_N} {N : NM} {x1 : Int} (H : Q147 N x1) : Rn 147 [.ref 14, .int (J x1)] (hs E (jm N)) (some (.int (J (G147 N x1)))) (hs E (jm N)) := by
  have h := s147 (E := E) (M := jm N) (x1 := J x1) (p147 H)
  rw [t147 H] at h
  exact h
-- 148 GlassWires$Wires setSoldered (IZ)V
theorem v148_0 {E : gw_N} {N : NM} {res : Option Value × gw_H} {x1 : Int} {x2 : Int} (H : ((0 ≤ x1 ∧ x1 < 30) ∧ ((x2 = 0 ∨ x2 = 1) ∧ res = (none, hs E (jm (upZ N 16 (updZ (N 16) x1 x2))))))) : Ev 1 148 0 [some (.ref 14), some (.int (J x1)), some (.int (J x2))] [] (hs E (jm N)) res := by
  refine w148_0 ?_
  obtain ⟨q1, H⟩ := H
  refine ⟨inb_J rfl q1 (by decide), ?_⟩
  obtain ⟨q2, H⟩ := H
  exact H.trans (rt_n (jm_up rfl (jf_upd (jf_base _ _) rfl q1 (by decide) (and1_J rfl q2))))
-- 149 GlassWires$Wires movesOf (I)I
theorem v149_0 {E : gw_N} {N : NM} {res : Option Value × gw_H} {x1 : Int} (H : ((0 ≤ x1 ∧ x1 < 30) ∧ res = (some (.int (J ((N 17) x1))), hs E (jm N)))) : Ev 1 149 0 [some (.ref 14), some (.int (J x1))] [] (hs E (jm N)) res := by
  refine w149_0 ?_
  obtain ⟨q1, H⟩ := H
  refine ⟨inb_J rfl q1 (by decide), ?_⟩
  exact H.trans (rt_i (rd_J (jf_base _ _) rfl q1 (by decide)) rfl)
def G149 (N : NM) (x1 : Int) : Int := ((N 17) x1)
def Q149 (N : NM) (x1 : Int) : Prop := ((0 ≤ x1 ∧ x1 < 30) ∧ True)
theorem t149 {N : NM} {x1 : Int} (H : Q149 N x1) : F149 (jm N) (J x1) = J (G149 N x1) := by
  unfold Q149 at H
  unfold F149 G149
  obtain ⟨q1, H⟩ := H
  exact (rd_J (jf_base _ _) rfl q1 (by decide))
theorem p149 {N : NM} {x1 : Int} (H : Q149 N x1) : P149 (jm N) (J x1) := by
  unfold Q149 at H
  unfold P149
  obtain ⟨q1, H⟩ := H
  exact inb_J rfl q1 (by decide)
theorem sz149 {E : gw_N} {N : NM} {x1 : Int} (H : Q149 N x1) : Rn 149 [.ref 14, .int (J x1)] (hs E (jm N)) (some (.int (J (G149 N x1)))) (hs E (jm N)) := by
  have h := s149 (E := E) (M := jm N) (x1 := J x1) (p149 H)
  rw [t149 H] at h
  exact h
-- 150 GlassWires$Wires bendsOf (I)I
theorem v150_0 {E : gw_N} {N : NM} {res : Option Value × gw_H} {x1 : Int} (H : ((0 ≤ x1 ∧ x1 < 30) ∧ res = (some (.int (J ((N 18) x1))), hs E (jm N)))) : Ev 1 150 0 [some (.ref 14), some (.int (J x1))] [] (hs E (jm N)) res := by
  refine w150_0 ?_
  obtain ⟨q1, H⟩ := H
  refine ⟨inb_J rfl q1 (by decide), ?_⟩
  exact H.trans (rt_i (rd_J (jf_base _ _) rfl q1 (by decide)) rfl)
def G150 (N : NM) (x1 : Int) : Int := ((N 18) x1)
def Q150 (N : NM) (x1 : Int) : Prop := ((0 ≤ x1 ∧ x1 < 30) ∧ True)
theorem t150 {N : NM} {x1 : Int} (H : Q150 N x1) : F150 (jm N) (J x1) = J (G150 N x1) := by
  unfold Q150 at H
  unfold F150 G150
  obtain ⟨q1, H⟩ := H
  exact (rd_J (jf_base _ _) rfl q1 (by decide))
theorem p150 {N : NM} {x1 : Int} (H : Q150 N x1) : P150 (jm N) (J x1) := by
  unfold Q150 at H
  unfold P150
  obtain ⟨q1, H⟩ := H
  exact inb_J rfl q1 (by decide)
theorem sz150 {E : gw_N} {N : NM} {x1 : Int} (H : Q150 N x1) : Rn 150 [.ref 14, .int (J x1)] (hs E (jm N)) (some (.int (J (G150 N x1)))) (hs E (jm N)) := by
  have h := s150 (E := E) (M := jm N) (x1 := J x1) (p150 H)
  rw [t150 H] at h
  exact h
-- 151 GlassWires$Wires edgesOf (I)I
theorem v151_0 {E : gw_N} {N : NM} {res : Option Value × gw_H} {x1 : Int} (H : ((0 ≤ x1 ∧ x1 < 30) ∧ res = (some (.int (J ((N 19) x1))), hs E (jm N)))) : Ev 1 151 0 [some (.ref 14), some (.int (J x1))] [] (hs E (jm N)) res := by
  refine w151_0 ?_
  obtain ⟨q1, H⟩ := H
  refine ⟨inb_J rfl q1 (by decide), ?_⟩
  exact H.trans (rt_i (rd_J (jf_base _ _) rfl q1 (by decide)) rfl)
def G151 (N : NM) (x1 : Int) : Int := ((N 19) x1)
def Q151 (N : NM) (x1 : Int) : Prop := ((0 ≤ x1 ∧ x1 < 30) ∧ True)
theorem t151 {N : NM} {x1 : Int} (H : Q151 N x1) : F151 (jm N) (J x1) = J (G151 N x1) := by
  unfold Q151 at H
  unfold F151 G151
  obtain ⟨q1, H⟩ := H
  exact (rd_J (jf_base _ _) rfl q1 (by decide))
theorem p151 {N : NM} {x1 : Int} (H : Q151 N x1) : P151 (jm N) (J x1) := by
  unfold Q151 at H
  unfold P151
  obtain ⟨q1, H⟩ := H
  exact inb_J rfl q1 (by decide)
theorem sz151 {E : gw_N} {N : NM} {x1 : Int} (H : Q151 N x1) : Rn 151 [.ref 14, .int (J x1)] (hs E (jm N)) (some (.int (J (G151 N x1)))) (hs E (jm N)) := by
  have h := s151 (E := E) (M := jm N) (x1 := J x1) (p151 H)
  rw [t151 H] at h
  exact h
-- 152 GlassWires$Wires stands (I)Z
theorem v152_0 {E : gw_N} {N : NM} {res : Option Value × gw_H} {x1 : Int} (H : ((0 ≤ x1 ∧ x1 < 30) ∧ ((R ((N 18) x1)) ∧ ((((N 18) x1) ≤ 0 → res = (some (.int (J 0)), hs E (jm N))) ∧ (¬ ((N 18) x1) ≤ 0 → res = (some (.int (J 1)), hs E (jm N))))))) : Ev 1 152 0 [some (.ref 14), some (.int (J x1))] [] (hs E (jm N)) res := by
  refine w152_0 ?_
  obtain ⟨q1, H⟩ := H
  refine ⟨inb_J rfl q1 (by decide), ?_⟩
  obtain ⟨q2, H⟩ := H
  refine ⟨fun hc => ?_, fun hc => ?_⟩
  · replace H := H.1 ((le_J (rd_J (jf_base _ _) rfl q1 (by decide)) jl_0 q2 (by decide)).mp hc)
    exact H.trans (rt_i jl_0 rfl)
  · replace H := H.2 (fun hz => hc ((le_J (rd_J (jf_base _ _) rfl q1 (by decide)) jl_0 q2 (by decide)).mpr hz))
    exact H.trans (rt_i jl_1 rfl)
def G152 (N : NM) (x1 : Int) : Int := (if ((N 18) x1) ≤ 0 then 0 else 1)
def Q152 (N : NM) (x1 : Int) : Prop := ((0 ≤ x1 ∧ x1 < 30) ∧ ((R ((N 18) x1)) ∧ ((((N 18) x1) ≤ 0 → True) ∧ (¬ ((N 18) x1) ≤ 0 → True))))
theorem t152 {N : NM} {x1 : Int} (H : Q152 N x1) : F152 (jm N) (J x1) = J (G152 N x1) := by
  unfold Q152 at H
  unfold F152 G152
  obtain ⟨q1, H⟩ := H
  obtain ⟨q2, H⟩ := H
  refine ite_J (le_J (rd_J (jf_base _ _) rfl q1 (by decide)) jl_0 q2 (by decide)) (fun hc => ?_) (fun hc => ?_)
  · replace H := H.1 ((le_J (rd_J (jf_base _ _) rfl q1 (by decide)) jl_0 q2 (by decide)).mp hc)
    exact jl_0
  · replace H := H.2 (fun hz => hc ((le_J (rd_J (jf_base _ _) rfl q1 (by decide)) jl_0 q2 (by decide)).mpr hz))
    exact jl_1
theorem p152 {N : NM} {x1 : Int} (H : Q152 N x1) : P152 (jm N) (J x1) := by
  unfold Q152 at H
  unfold P152
  obtain ⟨q1, H⟩ := H
  exact inb_J rfl q1 (by decide)
theorem sz152 {E : gw_N} {N : NM} {x1 : Int} (H : Q152 N x1) : Rn 152 [.ref 14, .int (J x1)] (hs E (jm N)) (some (.int (J (G152 N x1)))) (hs E (jm N)) := by
  have h := s152 (E := E) (M := jm N) (x1 := J x1) (p152 H)
  rw [t152 H] at h
  exact h
-- 153 GlassWires$Wires pointAt (II)I
theorem v153_0 {E : gw_N} {N : NM} {res : Option Value × gw_H} {x1 : Int} {x2 : Int} (H : ((0 ≤ ((25 * x1) + x2) ∧ ((25 * x1) + x2) < 750) ∧ res = (some (.int (J ((N 20) ((25 * x1) + x2)))), hs E (jm N)))) : Ev 1 153 0 [some (.ref 14), some (.int (J x1)), some (.int (J x2))] [] (hs E (jm N)) res := by
  refine w153_0 ?_
  obtain ⟨q1, H⟩ := H
  refine ⟨inb_J (add_J (mul_J jl_25 rfl) rfl) q1 (by decide), ?_⟩
  exact H.trans (rt_i (rd_J (jf_base _ _) (add_J (mul_J jl_25 rfl) rfl) q1 (by decide)) rfl)
def G153 (N : NM) (x1 : Int) (x2 : Int) : Int := ((N 20) ((25 * x1) + x2))
def Q153 (N : NM) (x1 : Int) (x2 : Int) : Prop := ((0 ≤ ((25 * x1) + x2) ∧ ((25 * x1) + x2) < 750) ∧ True)
theorem t153 {N : NM} {x1 : Int} {x2 : Int} (H : Q153 N x1 x2) : F153 (jm N) (J x1) (J x2) = J (G153 N x1 x2) := by
  unfold Q153 at H
  unfold F153 G153
  obtain ⟨q1, H⟩ := H
  exact (rd_J (jf_base _ _) (add_J (mul_J jl_25 rfl) rfl) q1 (by decide))
theorem p153 {N : NM} {x1 : Int} {x2 : Int} (H : Q153 N x1 x2) : P153 (jm N) (J x1) (J x2) := by
  unfold Q153 at H
  unfold P153
  obtain ⟨q1, H⟩ := H
  exact inb_J (add_J (mul_J jl_25 rfl) rfl) q1 (by decide)
theorem sz153 {E : gw_N} {N : NM} {x1 : Int} {x2 : Int} (H : Q153 N x1 x2) : Rn 153 [.ref 14, .int (J x1), .int (J x2)] (hs E (jm N)) (some (.int (J (G153 N x1 x2)))) (hs E (jm N)) := by
  have h := s153 (E := E) (M := jm N) (x1 := J x1) (x2 := J x2) (p153 H)
  rw [t153 H] at h
  exact h
-- 154 GlassWires$Wires edgeAt (II)I
theorem v154_0 {E : gw_N} {N : NM} {res : Option Value × gw_H} {x1 : Int} {x2 : Int} (H : ((0 ≤ ((24 * x1) + x2) ∧ ((24 * x1) + x2) < 720) ∧ res = (some (.int (J ((N 21) ((24 * x1) + x2)))), hs E (jm N)))) : Ev 1 154 0 [some (.ref 14), some (.int (J x1)), some (.int (J x2))] [] (hs E (jm N)) res := by
  refine w154_0 ?_
  obtain ⟨q1, H⟩ := H
  refine ⟨inb_J (add_J (mul_J jl_24 rfl) rfl) q1 (by decide), ?_⟩
  exact H.trans (rt_i (rd_J (jf_base _ _) (add_J (mul_J jl_24 rfl) rfl) q1 (by decide)) rfl)
def G154 (N : NM) (x1 : Int) (x2 : Int) : Int := ((N 21) ((24 * x1) + x2))
def Q154 (N : NM) (x1 : Int) (x2 : Int) : Prop := ((0 ≤ ((24 * x1) + x2) ∧ ((24 * x1) + x2) < 720) ∧ True)
theorem t154 {N : NM} {x1 : Int} {x2 : Int} (H : Q154 N x1 x2) : F154 (jm N) (J x1) (J x2) = J (G154 N x1 x2) := by
  unfold Q154 at H
  unfold F154 G154
  obtain ⟨q1, H⟩ := H
  exact (rd_J (jf_base _ _) (add_J (mul_J jl_24 rfl) rfl) q1 (by decide))
theorem p154 {N : NM} {x1 : Int} {x2 : Int} (H : Q154 N x1 x2) : P154 (jm N) (J x1) (J x2) := by
  unfold Q154 at H
  unfold P154
  obtain ⟨q1, H⟩ := H
  exact inb_J (add_J (mul_J jl_24 rfl) rfl) q1 (by decide)
theorem sz154 {E : gw_N} {N : NM} {x1 : Int} {x2 : Int} (H : Q154 N x1 x2) : Rn 154 [.ref 14, .int (J x1), .int (J x2)] (hs E (jm N)) (some (.int (J (G154 N x1 x2)))) (hs E (jm N)) := by
  have h := s154 (E := E) (M := jm N) (x1 := J x1) (x2 := J x2) (p154 H)
  rw [t154 H] at h
  exact h
-- 204 GlassWires isFireHeat (I)Z
theorem v204_0 {E : gw_N} {N : NM} {res : Option Value × gw_H} {x0 : Int} (H : ((R x0) ∧ ((x0 < 1 → res = (some (.int (J 0)), hs E (jm N))) ∧ (¬ x0 < 1 → (((999 : Int) < x0 → res = (some (.int (J 0)), hs E (jm N))) ∧ (¬ (999 : Int) < x0 → res = (some (.int (J 1)), hs E (jm N)))))))) : Ev 1 204 0 [some (.int (J x0))] [] (hs E (jm N)) res := by
  refine w204_0 ?_
  obtain ⟨q1, H⟩ := H
  refine ⟨fun hc => ?_, fun hc => ?_⟩
  · replace H := H.1 ((lt_J rfl jl_1 q1 (by decide)).mp hc)
    exact H.trans (rt_i jl_0 rfl)
  · replace H := H.2 (fun hz => hc ((lt_J rfl jl_1 q1 (by decide)).mpr hz))
    refine ⟨fun hc => ?_, fun hc => ?_⟩
    · replace H := H.1 ((lt_J jl_999 rfl (by decide) q1).mp hc)
      exact H.trans (rt_i jl_0 rfl)
    · replace H := H.2 (fun hz => hc ((lt_J jl_999 rfl (by decide) q1).mpr hz))
      exact H.trans (rt_i jl_1 rfl)
def G204 (N : NM) (x0 : Int) : Int := (if x0 < 1 then 0 else (if (999 : Int) < x0 then 0 else 1))
def Q204 (N : NM) (x0 : Int) : Prop := ((R x0) ∧ ((x0 < 1 → True) ∧ (¬ x0 < 1 → (((999 : Int) < x0 → True) ∧ (¬ (999 : Int) < x0 → True)))))
theorem t204 {N : NM} {x0 : Int} (H : Q204 N x0) : F204 (jm N) (J x0) = J (G204 N x0) := by
  unfold Q204 at H
  unfold F204 G204
  obtain ⟨q1, H⟩ := H
  refine ite_J (lt_J rfl jl_1 q1 (by decide)) (fun hc => ?_) (fun hc => ?_)
  · replace H := H.1 ((lt_J rfl jl_1 q1 (by decide)).mp hc)
    exact jl_0
  · replace H := H.2 (fun hz => hc ((lt_J rfl jl_1 q1 (by decide)).mpr hz))
    refine ite_J (lt_J jl_999 rfl (by decide) q1) (fun hc => ?_) (fun hc => ?_)
    · replace H := H.1 ((lt_J jl_999 rfl (by decide) q1).mp hc)
      exact jl_0
    · replace H := H.2 (fun hz => hc ((lt_J jl_999 rfl (by decide) q1).mpr hz))
      exact jl_1
theorem sz204 {E : gw_N} {N : NM} {x0 : Int} (H : Q204 N x0) : Rn 204 [.int (J x0)] (hs E (jm N)) (some (.int (J (G204 N x0)))) (hs E (jm N)) := by
  have h := s204 (E := E) (M := jm N) (x0 := J x0)
  rw [t204 H] at h
  exact h
-- 205 GlassWires isCoolHeat (I)Z
theorem v205_0 {E : gw_N} {N : NM} {res : Option Value × gw_H} {x0 : Int} (H : ((R x0) ∧ ((x0 < 0 → res = (some (.int (J 0)), hs E (jm N))) ∧ (¬ x0 < 0 → (((999 : Int) < x0 → res = (some (.int (J 0)), hs E (jm N))) ∧ (¬ (999 : Int) < x0 → res = (some (.int (J 1)), hs E (jm N)))))))) : Ev 1 205 0 [some (.int (J x0))] [] (hs E (jm N)) res := by
  refine w205_0 ?_
  obtain ⟨q1, H⟩ := H
  refine ⟨fun hc => ?_, fun hc => ?_⟩
  · replace H := H.1 ((lt_J rfl jl_0 q1 (by decide)).mp hc)
    exact H.trans (rt_i jl_0 rfl)
  · replace H := H.2 (fun hz => hc ((lt_J rfl jl_0 q1 (by decide)).mpr hz))
    refine ⟨fun hc => ?_, fun hc => ?_⟩
    · replace H := H.1 ((lt_J jl_999 rfl (by decide) q1).mp hc)
      exact H.trans (rt_i jl_0 rfl)
    · replace H := H.2 (fun hz => hc ((lt_J jl_999 rfl (by decide) q1).mpr hz))
      exact H.trans (rt_i jl_1 rfl)
def G205 (N : NM) (x0 : Int) : Int := (if x0 < 0 then 0 else (if (999 : Int) < x0 then 0 else 1))
def Q205 (N : NM) (x0 : Int) : Prop := ((R x0) ∧ ((x0 < 0 → True) ∧ (¬ x0 < 0 → (((999 : Int) < x0 → True) ∧ (¬ (999 : Int) < x0 → True)))))
theorem t205 {N : NM} {x0 : Int} (H : Q205 N x0) : F205 (jm N) (J x0) = J (G205 N x0) := by
  unfold Q205 at H
  unfold F205 G205
  obtain ⟨q1, H⟩ := H
  refine ite_J (lt_J rfl jl_0 q1 (by decide)) (fun hc => ?_) (fun hc => ?_)
  · replace H := H.1 ((lt_J rfl jl_0 q1 (by decide)).mp hc)
    exact jl_0
  · replace H := H.2 (fun hz => hc ((lt_J rfl jl_0 q1 (by decide)).mpr hz))
    refine ite_J (lt_J jl_999 rfl (by decide) q1) (fun hc => ?_) (fun hc => ?_)
    · replace H := H.1 ((lt_J jl_999 rfl (by decide) q1).mp hc)
      exact jl_0
    · replace H := H.2 (fun hz => hc ((lt_J jl_999 rfl (by decide) q1).mpr hz))
      exact jl_1
theorem sz205 {E : gw_N} {N : NM} {x0 : Int} (H : Q205 N x0) : Rn 205 [.int (J x0)] (hs E (jm N)) (some (.int (J (G205 N x0)))) (hs E (jm N)) := by
  have h := s205 (E := E) (M := jm N) (x0 := J x0)
  rw [t205 H] at h
  exact h
-- 206 GlassWires bit (Z)I
theorem v206_0 {E : gw_N} {N : NM} {res : Option Value × gw_H} {x0 : Int} (H : ((R x0) ∧ ((x0 = 0 → res = (some (.int (J 0)), hs E (jm N))) ∧ (¬ x0 = 0 → res = (some (.int (J 1)), hs E (jm N)))))) : Ev 1 206 0 [some (.int (J x0))] [] (hs E (jm N)) res := by
  refine w206_0 ?_
  obtain ⟨q1, H⟩ := H
  refine ⟨fun hc => ?_, fun hc => ?_⟩
  · replace H := H.1 ((eq_J rfl jl_0 q1 (by decide)).mp hc)
    exact H.trans (rt_i jl_0 rfl)
  · replace H := H.2 (fun hz => hc ((eq_J rfl jl_0 q1 (by decide)).mpr hz))
    exact H.trans (rt_i jl_1 rfl)
def G206 (N : NM) (x0 : Int) : Int := (if x0 = 0 then 0 else 1)
def Q206 (N : NM) (x0 : Int) : Prop := ((R x0) ∧ ((x0 = 0 → True) ∧ (¬ x0 = 0 → True)))
theorem t206 {N : NM} {x0 : Int} (H : Q206 N x0) : F206 (jm N) (J x0) = J (G206 N x0) := by
  unfold Q206 at H
  unfold F206 G206
  obtain ⟨q1, H⟩ := H
  refine ite_J (eq_J rfl jl_0 q1 (by decide)) (fun hc => ?_) (fun hc => ?_)
  · replace H := H.1 ((eq_J rfl jl_0 q1 (by decide)).mp hc)
    exact jl_0
  · replace H := H.2 (fun hz => hc ((eq_J rfl jl_0 q1 (by decide)).mpr hz))
    exact jl_1
theorem sz206 {E : gw_N} {N : NM} {x0 : Int} (H : Q206 N x0) : Rn 206 [.int (J x0)] (hs E (jm N)) (some (.int (J (G206 N x0)))) (hs E (jm N)) := by
  have h := s206 (E := E) (M := jm N) (x0 := J x0)
  rw [t206 H] at h
  exact h
-- 207 GlassWires mix (JJ)J
theorem v207_0 {E : gw_N} {N : NM} {res : Option Value × gw_H} {x0 : Int64} {x2 : Int64} (H : res = (some (.long ((31 * x0) + x2)), hs E (jm N))) : Ev 1 207 0 [some (.long x0), none, some (.long x2), none] [] (hs E (jm N)) res := by
  refine w207_0 ?_
  exact H.trans (rt_l (cg2 (fun (a b : Int64) => a + b) (cg2 (fun (a b : Int64) => a * b) rfl rfl) rfl) rfl)
def G207 (N : NM) (x0 : Int64) (x2 : Int64) : Int64 := ((31 * x0) + x2)
theorem t207 {N : NM} {x0 : Int64} {x2 : Int64} : F207 (jm N) x0 x2 = G207 N x0 x2 := by
  have H : True := trivial
  unfold F207 G207
  exact (cg2 (fun (a b : Int64) => a + b) (cg2 (fun (a b : Int64) => a * b) rfl rfl) rfl)
theorem sz207 {E : gw_N} {N : NM} {x0 : Int64} {x2 : Int64} : Rn 207 [.long x0, .long x2] (hs E (jm N)) (some (.long (G207 N x0 x2))) (hs E (jm N)) := by
  have h := s207 (E := E) (M := jm N) (x0 := x0) (x2 := x2)
  rw [t207] at h
  exact h
-- 209 GlassWiresModel in (JJJ)Z
theorem v209_0 {E : gw_N} {N : NM} {res : Option Value × gw_H} {x0 : Int64} {x2 : Int64} {x4 : Int64} (H : (((lg_cmp x0 x2).toInt < 0 → res = (some (.int (J 0)), hs E (jm N))) ∧ (¬ (lg_cmp x0 x2).toInt < 0 → (((0 : Int) < (lg_cmp x0 x4).toInt → res = (some (.int (J 0)), hs E (jm N))) ∧ (¬ (0 : Int) < (lg_cmp x0 x4).toInt → res = (some (.int (J 1)), hs E (jm N))))))) : Ev 1 209 0 [some (.long x0), none, some (.long x2), none, some (.long x4), none] [] (hs E (jm N)) res := by
  refine w209_0 ?_
  refine ⟨fun hc => ?_, fun hc => ?_⟩
  · replace H := H.1 ((lt_J (opq_J (cg2 lg_cmp rfl rfl)) jl_0 (R_toInt _) (by decide)).mp hc)
    exact H.trans (rt_i jl_0 rfl)
  · replace H := H.2 (fun hz => hc ((lt_J (opq_J (cg2 lg_cmp rfl rfl)) jl_0 (R_toInt _) (by decide)).mpr hz))
    refine ⟨fun hc => ?_, fun hc => ?_⟩
    · replace H := H.1 ((lt_J jl_0 (opq_J (cg2 lg_cmp rfl rfl)) (by decide) (R_toInt _)).mp hc)
      exact H.trans (rt_i jl_0 rfl)
    · replace H := H.2 (fun hz => hc ((lt_J jl_0 (opq_J (cg2 lg_cmp rfl rfl)) (by decide) (R_toInt _)).mpr hz))
      exact H.trans (rt_i jl_1 rfl)
def G209 (N : NM) (x0 : Int64) (x2 : Int64) (x4 : Int64) : Int := (if (lg_cmp x0 x2).toInt < 0 then 0 else (if (0 : Int) < (lg_cmp x0 x4).toInt then 0 else 1))
theorem t209 {N : NM} {x0 : Int64} {x2 : Int64} {x4 : Int64} : F209 (jm N) x0 x2 x4 = J (G209 N x0 x2 x4) := by
  have H : (((lg_cmp x0 x2).toInt < 0 → True) ∧ (¬ (lg_cmp x0 x2).toInt < 0 → (((0 : Int) < (lg_cmp x0 x4).toInt → True) ∧ (¬ (0 : Int) < (lg_cmp x0 x4).toInt → True)))) := ⟨fun _ => trivial, fun _ => ⟨fun _ => trivial, fun _ => trivial⟩⟩
  unfold F209 G209
  refine ite_J (lt_J (opq_J (cg2 lg_cmp rfl rfl)) jl_0 (R_toInt _) (by decide)) (fun hc => ?_) (fun hc => ?_)
  · replace H := H.1 ((lt_J (opq_J (cg2 lg_cmp rfl rfl)) jl_0 (R_toInt _) (by decide)).mp hc)
    exact jl_0
  · replace H := H.2 (fun hz => hc ((lt_J (opq_J (cg2 lg_cmp rfl rfl)) jl_0 (R_toInt _) (by decide)).mpr hz))
    refine ite_J (lt_J jl_0 (opq_J (cg2 lg_cmp rfl rfl)) (by decide) (R_toInt _)) (fun hc => ?_) (fun hc => ?_)
    · replace H := H.1 ((lt_J jl_0 (opq_J (cg2 lg_cmp rfl rfl)) (by decide) (R_toInt _)).mp hc)
      exact jl_0
    · replace H := H.2 (fun hz => hc ((lt_J jl_0 (opq_J (cg2 lg_cmp rfl rfl)) (by decide) (R_toInt _)).mpr hz))
      exact jl_1
theorem sz209 {E : gw_N} {N : NM} {x0 : Int64} {x2 : Int64} {x4 : Int64} : Rn 209 [.long x0, .long x2, .long x4] (hs E (jm N)) (some (.int (J (G209 N x0 x2 x4)))) (hs E (jm N)) := by
  have h := s209 (E := E) (M := jm N) (x0 := x0) (x2 := x2) (x4 := x4)
  rw [t209] at h
  exact h
-- 210 GlassWiresModel begin (II)V
theorem v210_0 {E : gw_N} {N : NM} {res : Option Value × gw_H} {x1 : Int} {x2 : Int} (H : Ev 1 210 17 [some (.ref 59), none, none, some (.int (J 0))] [] (hs E (jm (upZ N 59 (updZ (updZ (updZ (N 59) 0 x1) 1 x2) 4 0)))) res) : Ev 1 210 0 [some (.ref 59), some (.int (J x1)), some (.int (J x2)), none] [] (hs E (jm N)) res := by
  refine w210_0 ?_
  exact Ev_to (clx (clx (clx (cli jl_0 rfl)))) rfl (jm_up rfl (jf_updk (jf_updk (jf_updk (jf_base _ _) rfl) rfl) jl_0)) H
theorem v210_17 {E : gw_N} {N : NM} {res : Option Value × gw_H} {x3 : Int} (H : ((R x3) ∧ (((64 : Int) ≤ x3 → res = (none, hs E (jm (upZ N 59 (updZ (updZ (updZ (updZ (N 59) 34 0) 35 0) 29 0) 36 0))))) ∧ (¬ (64 : Int) ≤ x3 → ((0 ≤ x3 ∧ x3 < 64) ∧ Ev 1 210 17 [some (.ref 59), none, none, some (.int (J (x3 + 1)))] [] (hs E (jm (upZ N 77 (updZ (N 77) x3 0)))) res))))) : Ev 1 210 17 [some (.ref 59), none, none, some (.int (J x3))] [] (hs E (jm N)) res := by
  refine w210_17 ?_
  obtain ⟨q1, H⟩ := H
  refine ⟨fun hc => ?_, fun hc => ?_⟩
  · replace H := H.1 ((le_J jl_64 rfl (by decide) q1).mp hc)
    exact H.trans (rt_n (jm_up rfl (jf_updk (jf_updk (jf_updk (jf_updk (jf_base _ _) jl_0) jl_0) jl_0) jl_0)))
  · replace H := H.2 (fun hz => hc ((le_J jl_64 rfl (by decide) q1).mpr hz))
    obtain ⟨q2, H⟩ := H
    refine ⟨inb_J rfl q2 (by decide), ?_⟩
    exact Ev_to (clx (clx (clx (cli (add_J rfl jl_1) rfl)))) rfl (jm_up rfl (jf_upd (jf_base _ _) rfl q2 (by decide) jl_0)) H
-- 212 GlassWiresModel letters (J)I
theorem v212_0 {E : gw_N} {N : NM} {res : Option Value × gw_H} {x1 : Int64} (H : Ev 1 212 11 [some (.ref 59), some (.long x1), none, some (.int (J 0)), some (.int (J 1)), some (.long x1), none, some (.int (J 0)), none] [] (hs E (jm N)) res) : Ev 1 212 0 [some (.ref 59), some (.long x1), none, none, none, none, none, none, none] [] (hs E (jm N)) res := by
  refine w212_0 ?_
  exact Ev_to (clx (cll rfl (clx (cli jl_0 (cli jl_1 (cll rfl (clx (cli jl_0 (clx rfl))))))))) rfl rfl H
theorem v212_11 {E : gw_N} {N : NM} {res : Option Value × gw_H} {x1 : Int64} {x3 : Int} {x4 : Int} {x5 : Int64} {x7 : Int} (H : ((R x7) ∧ (((8 : Int) ≤ x7 → ((R x4) ∧ ((x4 = 0 → res = (some (.int (J (-102))), hs E (jm N))) ∧ (¬ x4 = 0 → ((R (((N 59) 3) + x3)) ∧ (((((N 59) 3) + x3) ≤ 40 → Ev 1 212 108 [some (.ref 59), some (.long x1), none, some (.int (J x3)), none, none, none, some (.int (J 0)), none] [] (hs E (jm N)) res) ∧ (¬ (((N 59) 3) + x3) ≤ 40 → res = (some (.int (J (-104))), hs E (jm N))))))))) ∧ (¬ (8 : Int) ≤ x7 → ((R x4) ∧ ((x4 = 0 → (((Int64.toInt32 (x5 &&& 255)).toInt ≤ 0 → Ev 1 212 11 [some (.ref 59), some (.long x1), none, some (.int (J (x3 + 0))), some (.int (J 0)), some (.long (lushrZ x5 (J 8))), none, some (.int (J (x7 + 1))), none] [] (hs E (jm N)) res) ∧ (¬ (Int64.toInt32 (x5 &&& 255)).toInt ≤ 0 → Ev 1 212 11 [some (.ref 59), some (.long x1), none, some (.int (J (x3 + 1))), some (.int (J 0)), some (.long (lushrZ x5 (J 8))), none, some (.int (J (x7 + 1))), none] [] (hs E (jm N)) res))) ∧ (¬ x4 = 0 → (((126 : Int) < (Int64.toInt32 (x5 &&& 255)).toInt → (((Int64.toInt32 (x5 &&& 255)).toInt ≤ 0 → Ev 1 212 11 [some (.ref 59), some (.long x1), none, some (.int (J (x3 + 0))), some (.int (J 0)), some (.long (lushrZ x5 (J 8))), none, some (.int (J (x7 + 1))), none] [] (hs E (jm N)) res) ∧ (¬ (Int64.toInt32 (x5 &&& 255)).toInt ≤ 0 → Ev 1 212 11 [some (.ref 59), some (.long x1), none, some (.int (J (x3 + 1))), some (.int (J 0)), some (.long (lushrZ x5 (J 8))), none, some (.int (J (x7 + 1))), none] [] (hs E (jm N)) res))) ∧ (¬ (126 : Int) < (Int64.toInt32 (x5 &&& 255)).toInt → (((Int64.toInt32 (x5 &&& 255)).toInt = 0 → (((Int64.toInt32 (x5 &&& 255)).toInt ≤ 0 → Ev 1 212 11 [some (.ref 59), some (.long x1), none, some (.int (J (x3 + 0))), some (.int (J 1)), some (.long (lushrZ x5 (J 8))), none, some (.int (J (x7 + 1))), none] [] (hs E (jm N)) res) ∧ (¬ (Int64.toInt32 (x5 &&& 255)).toInt ≤ 0 → Ev 1 212 11 [some (.ref 59), some (.long x1), none, some (.int (J (x3 + 1))), some (.int (J 1)), some (.long (lushrZ x5 (J 8))), none, some (.int (J (x7 + 1))), none] [] (hs E (jm N)) res))) ∧ (¬ (Int64.toInt32 (x5 &&& 255)).toInt = 0 → ((R x3) ∧ ((x3 = x7 → (((Int64.toInt32 (x5 &&& 255)).toInt ≤ 0 → Ev 1 212 11 [some (.ref 59), some (.long x1), none, some (.int (J (x3 + 0))), some (.int (J 1)), some (.long (lushrZ x5 (J 8))), none, some (.int (J (x7 + 1))), none] [] (hs E (jm N)) res) ∧ (¬ (Int64.toInt32 (x5 &&& 255)).toInt ≤ 0 → Ev 1 212 11 [some (.ref 59), some (.long x1), none, some (.int (J (x3 + 1))), some (.int (J 1)), some (.long (lushrZ x5 (J 8))), none, some (.int (J (x7 + 1))), none] [] (hs E (jm N)) res))) ∧ (¬ x3 = x7 → (((Int64.toInt32 (x5 &&& 255)).toInt ≤ 0 → Ev 1 212 11 [some (.ref 59), some (.long x1), none, some (.int (J (x3 + 0))), some (.int (J 0)), some (.long (lushrZ x5 (J 8))), none, some (.int (J (x7 + 1))), none] [] (hs E (jm N)) res) ∧ (¬ (Int64.toInt32 (x5 &&& 255)).toInt ≤ 0 → Ev 1 212 11 [some (.ref 59), some (.long x1), none, some (.int (J (x3 + 1))), some (.int (J 0)), some (.long (lushrZ x5 (J 8))), none, some (.int (J (x7 + 1))), none] [] (hs E (jm N)) res)))))))))))))))) : Ev 1 212 11 [some (.ref 59), some (.long x1), none, some (.int (J x3)), some (.int (J x4)), some (.long x5), none, some (.int (J x7)), none] [] (hs E (jm N)) res := by
  refine w212_11 ?_
  obtain ⟨q1, H⟩ := H
  refine ⟨fun hc => ?_, fun hc => ?_⟩
  · replace H := H.1 ((le_J jl_8 rfl (by decide) q1).mp hc)
    obtain ⟨q2, H⟩ := H
    refine ⟨fun hc => ?_, fun hc => ?_⟩
    · replace H := H.1 ((eq_J rfl jl_0 q2 (by decide)).mp hc)
      exact H.trans (rt_i jl_m102 rfl)
    · replace H := H.2 (fun hz => hc ((eq_J rfl jl_0 q2 (by decide)).mpr hz))
      obtain ⟨q3, H⟩ := H
      refine ⟨fun hc => ?_, fun hc => ?_⟩
      · replace H := H.1 ((le_J (add_J (fld_J (jf_base _ _)) rfl) jl_40 q3 (by decide)).mp hc)
        exact Ev_to (clx (cll rfl (clx (cli rfl (clx (clx (clx (cli jl_0 (clx rfl))))))))) rfl rfl H
      · replace H := H.2 (fun hz => hc ((le_J (add_J (fld_J (jf_base _ _)) rfl) jl_40 q3 (by decide)).mpr hz))
        exact H.trans (rt_i jl_m104 rfl)
  · replace H := H.2 (fun hz => hc ((le_J jl_8 rfl (by decide) q1).mpr hz))
    obtain ⟨q4, H⟩ := H
    refine ⟨fun hc => ?_, fun hc => ?_⟩
    · replace H := H.1 ((eq_J rfl jl_0 q4 (by decide)).mp hc)
      refine ⟨fun hc => ?_, fun hc => ?_⟩
      · replace H := H.1 ((le_J (opq_J (congrArg Int64.toInt32 (cg2 (fun (a b : Int64) => a &&& b) rfl rfl))) jl_0 (R_toInt _) (by decide)).mp hc)
        exact Ev_to (clx (cll rfl (clx (cli (add_J rfl jl_0) (cli jl_0 (cll (cg2 lushrZ rfl jl_8) (clx (cli (add_J rfl jl_1) (clx rfl))))))))) rfl rfl H
      · replace H := H.2 (fun hz => hc ((le_J (opq_J (congrArg Int64.toInt32 (cg2 (fun (a b : Int64) => a &&& b) rfl rfl))) jl_0 (R_toInt _) (by decide)).mpr hz))
        exact Ev_to (clx (cll rfl (clx (cli (add_J rfl jl_1) (cli jl_0 (cll (cg2 lushrZ rfl jl_8) (clx (cli (add_J rfl jl_1) (clx rfl))))))))) rfl rfl H
    · replace H := H.2 (fun hz => hc ((eq_J rfl jl_0 q4 (by decide)).mpr hz))
      refine ⟨fun hc => ?_, fun hc => ?_⟩
      · replace H := H.1 ((lt_J jl_126 (opq_J (congrArg Int64.toInt32 (cg2 (fun (a b : Int64) => a &&& b) rfl rfl))) (by decide) (R_toInt _)).mp hc)
        refine ⟨fun hc => ?_, fun hc => ?_⟩
        · replace H := H.1 ((le_J (opq_J (congrArg Int64.toInt32 (cg2 (fun (a b : Int64) => a &&& b) rfl rfl))) jl_0 (R_toInt _) (by decide)).mp hc)
          exact Ev_to (clx (cll rfl (clx (cli (add_J rfl jl_0) (cli jl_0 (cll (cg2 lushrZ rfl jl_8) (clx (cli (add_J rfl jl_1) (clx rfl))))))))) rfl rfl H
        · replace H := H.2 (fun hz => hc ((le_J (opq_J (congrArg Int64.toInt32 (cg2 (fun (a b : Int64) => a &&& b) rfl rfl))) jl_0 (R_toInt _) (by decide)).mpr hz))
          exact Ev_to (clx (cll rfl (clx (cli (add_J rfl jl_1) (cli jl_0 (cll (cg2 lushrZ rfl jl_8) (clx (cli (add_J rfl jl_1) (clx rfl))))))))) rfl rfl H
      · replace H := H.2 (fun hz => hc ((lt_J jl_126 (opq_J (congrArg Int64.toInt32 (cg2 (fun (a b : Int64) => a &&& b) rfl rfl))) (by decide) (R_toInt _)).mpr hz))
        refine ⟨fun hc => ?_, fun hc => ?_⟩
        · replace H := H.1 ((eq_J (opq_J (congrArg Int64.toInt32 (cg2 (fun (a b : Int64) => a &&& b) rfl rfl))) jl_0 (R_toInt _) (by decide)).mp hc)
          refine ⟨fun hc => ?_, fun hc => ?_⟩
          · replace H := H.1 ((le_J (opq_J (congrArg Int64.toInt32 (cg2 (fun (a b : Int64) => a &&& b) rfl rfl))) jl_0 (R_toInt _) (by decide)).mp hc)
            exact Ev_to (clx (cll rfl (clx (cli (add_J rfl jl_0) (cli jl_1 (cll (cg2 lushrZ rfl jl_8) (clx (cli (add_J rfl jl_1) (clx rfl))))))))) rfl rfl H
          · replace H := H.2 (fun hz => hc ((le_J (opq_J (congrArg Int64.toInt32 (cg2 (fun (a b : Int64) => a &&& b) rfl rfl))) jl_0 (R_toInt _) (by decide)).mpr hz))
            exact Ev_to (clx (cll rfl (clx (cli (add_J rfl jl_1) (cli jl_1 (cll (cg2 lushrZ rfl jl_8) (clx (cli (add_J rfl jl_1) (clx rfl))))))))) rfl rfl H
        · replace H := H.2 (fun hz => hc ((eq_J (opq_J (congrArg Int64.toInt32 (cg2 (fun (a b : Int64) => a &&& b) rfl rfl))) jl_0 (R_toInt _) (by decide)).mpr hz))
          obtain ⟨q5, H⟩ := H
          refine ⟨fun hc => ?_, fun hc => ?_⟩
          · replace H := H.1 ((eq_J rfl rfl q5 q1).mp hc)
            refine ⟨fun hc => ?_, fun hc => ?_⟩
            · replace H := H.1 ((le_J (opq_J (congrArg Int64.toInt32 (cg2 (fun (a b : Int64) => a &&& b) rfl rfl))) jl_0 (R_toInt _) (by decide)).mp hc)
              exact Ev_to (clx (cll rfl (clx (cli (add_J rfl jl_0) (cli jl_1 (cll (cg2 lushrZ rfl jl_8) (clx (cli (add_J rfl jl_1) (clx rfl))))))))) rfl rfl H
            · replace H := H.2 (fun hz => hc ((le_J (opq_J (congrArg Int64.toInt32 (cg2 (fun (a b : Int64) => a &&& b) rfl rfl))) jl_0 (R_toInt _) (by decide)).mpr hz))
              exact Ev_to (clx (cll rfl (clx (cli (add_J rfl jl_1) (cli jl_1 (cll (cg2 lushrZ rfl jl_8) (clx (cli (add_J rfl jl_1) (clx rfl))))))))) rfl rfl H
          · replace H := H.2 (fun hz => hc ((eq_J rfl rfl q5 q1).mpr hz))
            refine ⟨fun hc => ?_, fun hc => ?_⟩
            · replace H := H.1 ((le_J (opq_J (congrArg Int64.toInt32 (cg2 (fun (a b : Int64) => a &&& b) rfl rfl))) jl_0 (R_toInt _) (by decide)).mp hc)
              exact Ev_to (clx (cll rfl (clx (cli (add_J rfl jl_0) (cli jl_0 (cll (cg2 lushrZ rfl jl_8) (clx (cli (add_J rfl jl_1) (clx rfl))))))))) rfl rfl H
            · replace H := H.2 (fun hz => hc ((le_J (opq_J (congrArg Int64.toInt32 (cg2 (fun (a b : Int64) => a &&& b) rfl rfl))) jl_0 (R_toInt _) (by decide)).mpr hz))
              exact Ev_to (clx (cll rfl (clx (cli (add_J rfl jl_1) (cli jl_0 (cll (cg2 lushrZ rfl jl_8) (clx (cli (add_J rfl jl_1) (clx rfl))))))))) rfl rfl H
theorem v212_108 {E : gw_N} {N : NM} {res : Option Value × gw_H} {x1 : Int64} {x3 : Int} {x7 : Int} (H : ((R x3) ∧ ((R x7) ∧ ((x3 ≤ x7 → res = (some (.int (J ((N 59) 3))), hs E (jm N))) ∧ (¬ x3 ≤ x7 → ((0 ≤ ((N 59) 3) ∧ ((N 59) 3) < 40) ∧ Ev 1 212 108 [some (.ref 59), some (.long x1), none, some (.int (J x3)), none, none, none, some (.int (J (x7 + 1))), none] [] (hs E (jm (upZ (upZ N 60 (updZ (N 60) ((N 59) 3) (Int64.toInt32 ((lushrZ x1 (J (8 * x7))) &&& 255)).toInt)) 59 (updZ (N 59) 3 (((N 59) 3) + 1))))) res)))))) : Ev 1 212 108 [some (.ref 59), some (.long x1), none, some (.int (J x3)), none, none, none, some (.int (J x7)), none] [] (hs E (jm N)) res := by
  refine w212_108 ?_
  obtain ⟨q1, q2, H⟩ := H
  refine ⟨fun hc => ?_, fun hc => ?_⟩
  · replace H := H.1 ((le_J rfl rfl q1 q2).mp hc)
    exact H.trans (rt_i (fld_J (jf_base _ _)) rfl)
  · replace H := H.2 (fun hz => hc ((le_J rfl rfl q1 q2).mpr hz))
    obtain ⟨q3, H⟩ := H
    refine ⟨inb_J (fld_J (jf_base _ _)) q3 (by decide), ?_⟩
    exact Ev_to (clx (cll rfl (clx (cli rfl (clx (clx (clx (cli (add_J rfl jl_1) (clx rfl))))))))) rfl (jm_up (jm_up rfl (jf_upd (jf_base _ _) (fld_J (jf_base _ _)) q3 (by decide) (opq_J (congrArg Int64.toInt32 (cg2 (fun (a b : Int64) => a &&& b) (cg2 lushrZ rfl (mul_J jl_8 rfl)) rfl))))) (jf_updk (jf_base _ _) (add_J (fld_J (jf_base _ _)) jl_1))) H
-- 213 GlassWiresModel blank ()I
theorem v213_0 {E : gw_N} {N : NM} {res : Option Value × gw_H}  (H : res = (some (.int (J ((N 59) 3))), hs E (jm (upZ N 59 (updZ (N 59) 3 0))))) : Ev 1 213 0 [some (.ref 59), none] [] (hs E (jm N)) res := by
  refine w213_0 ?_
  exact H.trans (rt_i (fld_J (jf_base _ _)) (jm_up rfl (jf_updk (jf_base _ _) jl_0)))
-- 215 GlassWiresModel stepX (I)I
theorem v215_0 {E : gw_N} {N : NM} {res : Option Value × gw_H} {x0 : Int} (H : ((R x0) ∧ ((x0 = 114 → res = (some (.int (J 1)), hs E (jm N))) ∧ (¬ x0 = 114 → ((x0 = 108 → res = (some (.int (J (-1))), hs E (jm N))) ∧ (¬ x0 = 108 → res = (some (.int (J 0)), hs E (jm N)))))))) : Ev 1 215 0 [some (.int (J x0))] [] (hs E (jm N)) res := by
  refine w215_0 ?_
  obtain ⟨q1, H⟩ := H
  refine ⟨fun hc => ?_, fun hc => ?_⟩
  · replace H := H.1 ((eq_J rfl jl_114 q1 (by decide)).mp hc)
    exact H.trans (rt_i jl_1 rfl)
  · replace H := H.2 (fun hz => hc ((eq_J rfl jl_114 q1 (by decide)).mpr hz))
    refine ⟨fun hc => ?_, fun hc => ?_⟩
    · replace H := H.1 ((eq_J rfl jl_108 q1 (by decide)).mp hc)
      exact H.trans (rt_i jl_m1 rfl)
    · replace H := H.2 (fun hz => hc ((eq_J rfl jl_108 q1 (by decide)).mpr hz))
      exact H.trans (rt_i jl_0 rfl)
def G215 (N : NM) (x0 : Int) : Int := (if x0 = 114 then 1 else (if x0 = 108 then (-1) else 0))
def Q215 (N : NM) (x0 : Int) : Prop := ((R x0) ∧ ((x0 = 114 → True) ∧ (¬ x0 = 114 → ((x0 = 108 → True) ∧ (¬ x0 = 108 → True)))))
theorem t215 {N : NM} {x0 : Int} (H : Q215 N x0) : F215 (jm N) (J x0) = J (G215 N x0) := by
  unfold Q215 at H
  unfold F215 G215
  obtain ⟨q1, H⟩ := H
  refine ite_J (eq_J rfl jl_114 q1 (by decide)) (fun hc => ?_) (fun hc => ?_)
  · replace H := H.1 ((eq_J rfl jl_114 q1 (by decide)).mp hc)
    exact jl_1
  · replace H := H.2 (fun hz => hc ((eq_J rfl jl_114 q1 (by decide)).mpr hz))
    refine ite_J (eq_J rfl jl_108 q1 (by decide)) (fun hc => ?_) (fun hc => ?_)
    · replace H := H.1 ((eq_J rfl jl_108 q1 (by decide)).mp hc)
      exact jl_m1
    · replace H := H.2 (fun hz => hc ((eq_J rfl jl_108 q1 (by decide)).mpr hz))
      exact jl_0
theorem sz215 {E : gw_N} {N : NM} {x0 : Int} (H : Q215 N x0) : Rn 215 [.int (J x0)] (hs E (jm N)) (some (.int (J (G215 N x0)))) (hs E (jm N)) := by
  have h := s215 (E := E) (M := jm N) (x0 := J x0)
  rw [t215 H] at h
  exact h
-- 216 GlassWiresModel stepY (I)I
theorem v216_0 {E : gw_N} {N : NM} {res : Option Value × gw_H} {x0 : Int} (H : ((R x0) ∧ ((x0 = 117 → res = (some (.int (J 1)), hs E (jm N))) ∧ (¬ x0 = 117 → ((x0 = 100 → res = (some (.int (J (-1))), hs E (jm N))) ∧ (¬ x0 = 100 → res = (some (.int (J 0)), hs E (jm N)))))))) : Ev 1 216 0 [some (.int (J x0))] [] (hs E (jm N)) res := by
  refine w216_0 ?_
  obtain ⟨q1, H⟩ := H
  refine ⟨fun hc => ?_, fun hc => ?_⟩
  · replace H := H.1 ((eq_J rfl jl_117 q1 (by decide)).mp hc)
    exact H.trans (rt_i jl_1 rfl)
  · replace H := H.2 (fun hz => hc ((eq_J rfl jl_117 q1 (by decide)).mpr hz))
    refine ⟨fun hc => ?_, fun hc => ?_⟩
    · replace H := H.1 ((eq_J rfl jl_100 q1 (by decide)).mp hc)
      exact H.trans (rt_i jl_m1 rfl)
    · replace H := H.2 (fun hz => hc ((eq_J rfl jl_100 q1 (by decide)).mpr hz))
      exact H.trans (rt_i jl_0 rfl)
def G216 (N : NM) (x0 : Int) : Int := (if x0 = 117 then 1 else (if x0 = 100 then (-1) else 0))
def Q216 (N : NM) (x0 : Int) : Prop := ((R x0) ∧ ((x0 = 117 → True) ∧ (¬ x0 = 117 → ((x0 = 100 → True) ∧ (¬ x0 = 100 → True)))))
theorem t216 {N : NM} {x0 : Int} (H : Q216 N x0) : F216 (jm N) (J x0) = J (G216 N x0) := by
  unfold Q216 at H
  unfold F216 G216
  obtain ⟨q1, H⟩ := H
  refine ite_J (eq_J rfl jl_117 q1 (by decide)) (fun hc => ?_) (fun hc => ?_)
  · replace H := H.1 ((eq_J rfl jl_117 q1 (by decide)).mp hc)
    exact jl_1
  · replace H := H.2 (fun hz => hc ((eq_J rfl jl_117 q1 (by decide)).mpr hz))
    refine ite_J (eq_J rfl jl_100 q1 (by decide)) (fun hc => ?_) (fun hc => ?_)
    · replace H := H.1 ((eq_J rfl jl_100 q1 (by decide)).mp hc)
      exact jl_m1
    · replace H := H.2 (fun hz => hc ((eq_J rfl jl_100 q1 (by decide)).mpr hz))
      exact jl_0
theorem sz216 {E : gw_N} {N : NM} {x0 : Int} (H : Q216 N x0) : Rn 216 [.int (J x0)] (hs E (jm N)) (some (.int (J (G216 N x0)))) (hs E (jm N)) := by
  have h := s216 (E := E) (M := jm N) (x0 := J x0)
  rw [t216 H] at h
  exact h
