/-! by program (wpz.py): the formulas over the integers -/
-- 295 GlassWiresModel cooling (I)I
theorem v295_0 {E : gw_N} {N : NM} {res : Option Value × gw_H} {x1 : Int} (H : ((R x1) ∧ (((if 0 ≤ x1 ∧ x1 ≤ 999 then (1 : Int) else 0) = 0 → res = (some (.int (J (-102))), hs E (jm N))) ∧ (¬ (if 0 ≤ x1 ∧ x1 ≤ 999 then (1 : Int) else 0) = 0 → ((x1 = 0 → res = (some (.int (J 0)), hs E (jm N))) ∧ (¬ x1 = 0 → (∃ (r1 : Int), Rn 294 [.ref 59] (hs E (jm N)) (some (.int (J r1))) (hs E (jm N)) ∧ ((R r1) ∧ ((r1 = 0 → res = (some (.int (J (-1))), hs E (jm N))) ∧ (¬ r1 = 0 → ((0 < r1) ∧ ((R ((x1 + r1) - 1)) ∧ res = (some (.int (J (Int.tdiv ((x1 + r1) - 1) r1))), hs E (jm N)))))))))))))) : Ev 7 295 0 [some (.ref 59), some (.int (J x1)), none] [] (hs E (jm N)) res := by
  refine w295_0 ?_
  obtain ⟨q1, H⟩ := H
  refine ⟨fun hc => ?_, fun hc => ?_⟩
  · replace H := H.1 ((eq_J (in_J (congrArg Int32.toInt64 rfl) ll_0 ll_999 q1 (by decide) (by decide)) jl_0 R_in (by decide)).mp hc)
    exact H.trans (rt_i jl_m102 rfl)
  · replace H := H.2 (fun hz => hc ((eq_J (in_J (congrArg Int32.toInt64 rfl) ll_0 ll_999 q1 (by decide) (by decide)) jl_0 R_in (by decide)).mpr hz))
    refine ⟨fun hc => ?_, fun hc => ?_⟩
    · replace H := H.1 ((eq_J rfl jl_0 q1 (by decide)).mp hc)
      exact H.trans (rt_i jl_0 rfl)
    · replace H := H.2 (fun hz => hc ((eq_J rfl jl_0 q1 (by decide)).mpr hz))
      obtain ⟨r1, q5, H⟩ := H
      refine ⟨J r1, Rn_to (clx rfl) rfl rfl q5, ?_⟩
      obtain ⟨q2, H⟩ := H
      refine ⟨fun hc => ?_, fun hc => ?_⟩
      · replace H := H.1 ((eq_J rfl jl_0 q2 (by decide)).mp hc)
        exact H.trans (rt_i jl_m1 rfl)
      · replace H := H.2 (fun hz => hc ((eq_J rfl jl_0 q2 (by decide)).mpr hz))
        obtain ⟨q3, H⟩ := H
        refine ⟨nz_J rfl q2 q3, ?_⟩
        obtain ⟨q4, H⟩ := H
        exact H.trans (rt_i (div_J (sub_J (add_J rfl rfl) jl_1) rfl q4 q2 q3) rfl)
-- 296 GlassWiresModel cool (II)I
theorem v296_0 {E : gw_N} {N : NM} {res : Option Value × gw_H} {x1 : Int} {x2 : Int} (H : ((R x1) ∧ (((if 0 ≤ x1 ∧ x1 ≤ 999 then (1 : Int) else 0) = 0 → res = (some (.int (J (-102))), hs E (jm N))) ∧ (¬ (if 0 ≤ x1 ∧ x1 ≤ 999 then (1 : Int) else 0) = 0 → ((R x2) ∧ ((x2 = 0 → res = (some (.int (J x1)), hs E (jm N))) ∧ (¬ x2 = 0 → (∃ (r1 : Int), Rn 294 [.ref 59] (hs E (jm N)) (some (.int (J r1))) (hs E (jm N)) ∧ ((x2 < 0 → res = (some (.int (J (-1))), hs E (jm N))) ∧ (¬ x2 < 0 → ((x1 = 0 → res = (some (.int (J (-1))), hs E (jm N))) ∧ (¬ x1 = 0 → ((R r1) ∧ ((r1 = 0 → res = (some (.int (J (-1))), hs E (jm N))) ∧ (¬ r1 = 0 → ((0 < r1) ∧ ((R ((x1 + r1) - 1)) ∧ ((R (Int.tdiv ((x1 + r1) - 1) r1)) ∧ ((x2 ≤ (Int.tdiv ((x1 + r1) - 1) r1) → ((R (x1 - (x2 * r1))) ∧ (((0 : Int) ≤ (x1 - (x2 * r1)) → res = (some (.int (J (x1 - (x2 * r1)))), hs E (jm N))) ∧ (¬ (0 : Int) ≤ (x1 - (x2 * r1)) → res = (some (.int (J 0)), hs E (jm N)))))) ∧ (¬ x2 ≤ (Int.tdiv ((x1 + r1) - 1) r1) → res = (some (.int (J (-1))), hs E (jm N)))))))))))))))))))))) : Ev 7 296 0 [some (.ref 59), some (.int (J x1)), some (.int (J x2)), none, none] [] (hs E (jm N)) res := by
  refine w296_0 ?_
  obtain ⟨q1, H⟩ := H
  refine ⟨fun hc => ?_, fun hc => ?_⟩
  · replace H := H.1 ((eq_J (in_J (congrArg Int32.toInt64 rfl) ll_0 ll_999 q1 (by decide) (by decide)) jl_0 R_in (by decide)).mp hc)
    exact H.trans (rt_i jl_m102 rfl)
  · replace H := H.2 (fun hz => hc ((eq_J (in_J (congrArg Int32.toInt64 rfl) ll_0 ll_999 q1 (by decide) (by decide)) jl_0 R_in (by decide)).mpr hz))
    obtain ⟨q2, H⟩ := H
    refine ⟨fun hc => ?_, fun hc => ?_⟩
    · replace H := H.1 ((eq_J rfl jl_0 q2 (by decide)).mp hc)
      exact H.trans (rt_i rfl rfl)
    · replace H := H.2 (fun hz => hc ((eq_J rfl jl_0 q2 (by decide)).mpr hz))
      obtain ⟨r1, q8, H⟩ := H
      refine ⟨J r1, Rn_to (clx rfl) rfl rfl q8, ?_⟩
      refine ⟨fun hc => ?_, fun hc => ?_⟩
      · replace H := H.1 ((lt_J rfl jl_0 q2 (by decide)).mp hc)
        exact H.trans (rt_i jl_m1 rfl)
      · replace H := H.2 (fun hz => hc ((lt_J rfl jl_0 q2 (by decide)).mpr hz))
        refine ⟨fun hc => ?_, fun hc => ?_⟩
        · replace H := H.1 ((eq_J rfl jl_0 q1 (by decide)).mp hc)
          exact H.trans (rt_i jl_m1 rfl)
        · replace H := H.2 (fun hz => hc ((eq_J rfl jl_0 q1 (by decide)).mpr hz))
          obtain ⟨q3, H⟩ := H
          refine ⟨fun hc => ?_, fun hc => ?_⟩
          · replace H := H.1 ((eq_J rfl jl_0 q3 (by decide)).mp hc)
            exact H.trans (rt_i jl_m1 rfl)
          · replace H := H.2 (fun hz => hc ((eq_J rfl jl_0 q3 (by decide)).mpr hz))
            obtain ⟨q4, H⟩ := H
            refine ⟨nz_J rfl q3 q4, ?_⟩
            obtain ⟨q5, q6, H⟩ := H
            refine ⟨fun hc => ?_, fun hc => ?_⟩
            · replace H := H.1 ((le_J rfl (div_J (sub_J (add_J rfl rfl) jl_1) rfl q5 q3 q4) q2 q6).mp hc)
              obtain ⟨q7, H⟩ := H
              refine ⟨fun hc => ?_, fun hc => ?_⟩
              · replace H := H.1 ((le_J jl_0 (sub_J rfl (mul_J rfl rfl)) (by decide) q7).mp hc)
                exact H.trans (rt_i (sub_J rfl (mul_J rfl rfl)) rfl)
              · replace H := H.2 (fun hz => hc ((le_J jl_0 (sub_J rfl (mul_J rfl rfl)) (by decide) q7).mpr hz))
                exact H.trans (rt_i jl_0 rfl)
            · replace H := H.2 (fun hz => hc ((le_J rfl (div_J (sub_J (add_J rfl rfl) jl_1) rfl q5 q3 q4) q2 q6).mpr hz))
              exact H.trans (rt_i jl_m1 rfl)
-- 171 GlassWires many (I)I
theorem v171_0 {E : gw_N} {N : NM} {res : Option Value × gw_H} {x1 : Int} (H : ((R x1) ∧ ((x1 = 0 → (∃ (r1 : Int), Rn 70 [.ref 22, .int (J 0)] (hs E (jm N)) (some (.int (J r1))) (hs E (jm N)) ∧ res = (some (.int (J r1)), hs E (jm N)))) ∧ (x1 = 1 → (∃ (r2 : Int), Rn 70 [.ref 22, .int (J 1)] (hs E (jm N)) (some (.int (J r2))) (hs E (jm N)) ∧ res = (some (.int (J r2)), hs E (jm N)))) ∧ (x1 = 2 → (∃ (r3 : Int), Rn 69 [.ref 22, .int (J 2)] (hs E (jm N)) (some (.int (J r3))) (hs E (jm N)) ∧ res = (some (.int (J r3)), hs E (jm N)))) ∧ (x1 = 3 → (∃ (r4 : Int), Rn 65 [.ref 22] (hs E (jm N)) (some (.int (J r4))) (hs E (jm N)) ∧ res = (some (.int (J r4)), hs E (jm N)))) ∧ (x1 = 4 → (∃ (r5 : Int), Rn 69 [.ref 22, .int (J 1)] (hs E (jm N)) (some (.int (J r5))) (hs E (jm N)) ∧ res = (some (.int (J r5)), hs E (jm N)))) ∧ (x1 = 5 → (∃ (r6 : Int) (N6 : NM), Rn 75 [.ref 22] (hs E (jm N)) (some (.int (J r6))) (hs E (jm N6)) ∧ res = (some (.int (J r6)), hs E (jm N6)))) ∧ (x1 = 6 → res = (some (.int (J (G3 N))), hs E (jm N))) ∧ (x1 = 7 → (∃ (r7 : Int), Rn 7 [.ref 32] (hs E (jm N)) (some (.int (J r7))) (hs E (jm N)) ∧ res = (some (.int (J r7)), hs E (jm N)))) ∧ (¬ x1 = 0 → ¬ x1 = 1 → ¬ x1 = 2 → ¬ x1 = 3 → ¬ x1 = 4 → ¬ x1 = 5 → ¬ x1 = 6 → ¬ x1 = 7 → res = (some (.int (J (-102))), hs E (jm N)))))) : Ev 8 171 0 [some (.ref 8), some (.int (J x1))] [] (hs E (jm N)) res := by
  refine w171_0 ?_
  obtain ⟨q1, H⟩ := H
  refine ⟨fun hc => ?_, fun hc => ?_, fun hc => ?_, fun hc => ?_, fun hc => ?_, fun hc => ?_, fun hc => ?_, fun hc => ?_, fun hc0 hc1 hc2 hc3 hc4 hc5 hc6 hc7 => ?_⟩
  · replace H := (H.1) ((eq_J rfl jl_0 q1 (by decide)).mp hc)
    obtain ⟨r1, q2, H⟩ := H
    refine ⟨J r1, Rn_to (clx (cai jl_0 rfl)) rfl rfl q2, ?_⟩
    exact H.trans (rt_i rfl rfl)
  · replace H := (H.2.1) ((eq_J rfl jl_1 q1 (by decide)).mp hc)
    obtain ⟨r2, q3, H⟩ := H
    refine ⟨J r2, Rn_to (clx (cai jl_1 rfl)) rfl rfl q3, ?_⟩
    exact H.trans (rt_i rfl rfl)
  · replace H := (H.2.2.1) ((eq_J rfl jl_2 q1 (by decide)).mp hc)
    obtain ⟨r3, q4, H⟩ := H
    refine ⟨J r3, Rn_to (clx (cai jl_2 rfl)) rfl rfl q4, ?_⟩
    exact H.trans (rt_i rfl rfl)
  · replace H := (H.2.2.2.1) ((eq_J rfl jl_3 q1 (by decide)).mp hc)
    obtain ⟨r4, q5, H⟩ := H
    refine ⟨J r4, Rn_to (clx rfl) rfl rfl q5, ?_⟩
    exact H.trans (rt_i rfl rfl)
  · replace H := (H.2.2.2.2.1) ((eq_J rfl jl_4 q1 (by decide)).mp hc)
    obtain ⟨r5, q6, H⟩ := H
    refine ⟨J r5, Rn_to (clx (cai jl_1 rfl)) rfl rfl q6, ?_⟩
    exact H.trans (rt_i rfl rfl)
  · replace H := (H.2.2.2.2.2.1) ((eq_J rfl jl_5 q1 (by decide)).mp hc)
    obtain ⟨r6, N6, q7, H⟩ := H
    refine ⟨J r6, jm N6, Rn_to (clx rfl) rfl rfl q7, ?_⟩
    exact H.trans (rt_i rfl rfl)
  · replace H := (H.2.2.2.2.2.2.1) ((eq_J rfl jl_6 q1 (by decide)).mp hc)
    exact H.trans (rt_i ((congrArg F3 rfl).trans (t3)) rfl)
  · replace H := (H.2.2.2.2.2.2.2.1) ((eq_J rfl jl_7 q1 (by decide)).mp hc)
    obtain ⟨r7, q8, H⟩ := H
    refine ⟨J r7, Rn_to (clx rfl) rfl rfl q8, ?_⟩
    exact H.trans (rt_i rfl rfl)
  · replace H := (H.2.2.2.2.2.2.2.2) (fun hz => hc0 ((eq_J rfl jl_0 q1 (by decide)).mpr hz)) (fun hz => hc1 ((eq_J rfl jl_1 q1 (by decide)).mpr hz)) (fun hz => hc2 ((eq_J rfl jl_2 q1 (by decide)).mpr hz)) (fun hz => hc3 ((eq_J rfl jl_3 q1 (by decide)).mpr hz)) (fun hz => hc4 ((eq_J rfl jl_4 q1 (by decide)).mpr hz)) (fun hz => hc5 ((eq_J rfl jl_5 q1 (by decide)).mpr hz)) (fun hz => hc6 ((eq_J rfl jl_6 q1 (by decide)).mpr hz)) (fun hz => hc7 ((eq_J rfl jl_7 q1 (by decide)).mpr hz))
    exact H.trans (rt_i jl_m102 rfl)
-- 172 GlassWires end (II)I
theorem v172_0 {E : gw_N} {N : NM} {res : Option Value × gw_H} {x1 : Int} {x2 : Int} (H : ((R x1) ∧ ((x1 = 0 → (∃ (r1 : Int), Rn 71 [.ref 22, .int (J x1), .int (J x2)] (hs E (jm N)) (some (.int (J r1))) (hs E (jm N)) ∧ res = (some (.int (J r1)), hs E (jm N)))) ∧ (¬ x1 = 0 → ((x1 = 1 → (∃ (r2 : Int), Rn 71 [.ref 22, .int (J x1), .int (J x2)] (hs E (jm N)) (some (.int (J r2))) (hs E (jm N)) ∧ res = (some (.int (J r2)), hs E (jm N)))) ∧ (¬ x1 = 1 → res = (some (.int (J (-102))), hs E (jm N)))))))) : Ev 8 172 0 [some (.ref 8), some (.int (J x1)), some (.int (J x2))] [] (hs E (jm N)) res := by
  refine w172_0 ?_
  obtain ⟨q1, H⟩ := H
  refine ⟨fun hc => ?_, fun hc => ?_⟩
  · replace H := H.1 ((eq_J rfl jl_0 q1 (by decide)).mp hc)
    obtain ⟨r1, q2, H⟩ := H
    refine ⟨J r1, Rn_to (clx (cai rfl (cai rfl rfl))) rfl rfl q2, ?_⟩
    exact H.trans (rt_i rfl rfl)
  · replace H := H.2 (fun hz => hc ((eq_J rfl jl_0 q1 (by decide)).mpr hz))
    refine ⟨fun hc => ?_, fun hc => ?_⟩
    · replace H := H.1 ((eq_J rfl jl_1 q1 (by decide)).mp hc)
      obtain ⟨r2, q3, H⟩ := H
      refine ⟨J r2, Rn_to (clx (cai rfl (cai rfl rfl))) rfl rfl q3, ?_⟩
      exact H.trans (rt_i rfl rfl)
    · replace H := H.2 (fun hz => hc ((eq_J rfl jl_1 q1 (by decide)).mpr hz))
      exact H.trans (rt_i jl_m102 rfl)
-- 196 GlassWires cool (II)I
theorem v196_0 {E : gw_N} {N : NM} {res : Option Value × gw_H} {x1 : Int} {x2 : Int} (H : ((Q205 N x1) ∧ ((R (G205 N x1)) ∧ (((G205 N x1) = 0 → res = (some (.int (J (-102))), hs E (jm N))) ∧ (¬ (G205 N x1) = 0 → (∃ (r1 : Int), Rn 139 [.ref 53, .int (J x1), .int (J x2)] (hs E (jm N)) (some (.int (J r1))) (hs E (jm N)) ∧ res = (some (.int (J r1)), hs E (jm N)))))))) : Ev 8 196 0 [some (.ref 8), some (.int (J x1)), some (.int (J x2))] [] (hs E (jm N)) res := by
  refine w196_0 ?_
  obtain ⟨q1, H⟩ := H
  obtain ⟨q2, H⟩ := H
  refine ⟨fun hc => ?_, fun hc => ?_⟩
  · replace H := H.1 ((eq_J ((congr (congrArg F205 rfl) rfl).trans (t205 q1)) jl_0 q2 (by decide)).mp hc)
    exact H.trans (rt_i jl_m102 rfl)
  · replace H := H.2 (fun hz => hc ((eq_J ((congr (congrArg F205 rfl) rfl).trans (t205 q1)) jl_0 q2 (by decide)).mpr hz))
    obtain ⟨r1, q3, H⟩ := H
    refine ⟨J r1, Rn_to (clx (cai rfl (cai rfl rfl))) rfl rfl q3, ?_⟩
    exact H.trans (rt_i rfl rfl)
-- 88 GlassWires$Painter fewest ()I
theorem v88_0 {E : gw_N} {N : NM} {res : Option Value × gw_H}  (H : (∃ (N1 : NM), Rn 90 [.ref 36] (hs E (jm N)) none (hs E (jm N1)) ∧ ((Q312 N1 (G3 N1) 10) ∧ Ev 21 88 19 [some (.ref 36), some (.int (J (G312 N1 (G3 N1) 10))), some (.int (J 1))] [] (hs E (jm N1)) res))) : Ev 21 88 0 [some (.ref 36), none, none] [] (hs E (jm N)) res := by
  refine w88_0 ?_
  obtain ⟨N1, q2, H⟩ := H
  refine ⟨jm N1, Rn_to (clx rfl) rfl rfl q2, ?_⟩
  obtain ⟨q1, H⟩ := H
  exact Ev_to (clx (cli ((congr (congr (congrArg F312 rfl) ((congrArg F3 rfl).trans (t3))) jl_10).trans (t312 q1)) (cli jl_1 rfl))) rfl rfl H
theorem v88_19 {E : gw_N} {N : NM} {res : Option Value × gw_H} {x1 : Int} {x2 : Int} (H : ((R x2) ∧ (((10 : Int) < x2 → res = (some (.int (J 10)), hs E (jm N))) ∧ (¬ (10 : Int) < x2 → (∃ (r1 : Int) (N1 : NM), Rn 91 [.ref 38, .ref 39, .int (J 0), .int (J x1), .int (J x2)] (hs E (jm N)) (some (.int (J r1))) (hs E (jm N1)) ∧ ((R r1) ∧ ((r1 = 0 → Ev 21 88 19 [some (.ref 36), some (.int (J x1)), some (.int (J (x2 + 1)))] [] (hs E (jm N1)) res) ∧ (¬ r1 = 0 → res = (some (.int (J x2)), hs E (jm N1)))))))))) : Ev 21 88 19 [some (.ref 36), some (.int (J x1)), some (.int (J x2))] [] (hs E (jm N)) res := by
  refine w88_19 ?_
  obtain ⟨q1, H⟩ := H
  refine ⟨fun hc => ?_, fun hc => ?_⟩
  · replace H := H.1 ((lt_J jl_10 rfl (by decide) q1).mp hc)
    exact H.trans (rt_i jl_10 rfl)
  · replace H := H.2 (fun hz => hc ((lt_J jl_10 rfl (by decide) q1).mpr hz))
    obtain ⟨r1, N1, q3, H⟩ := H
    refine ⟨J r1, jm N1, Rn_to (clx (clx (cai jl_0 (cai rfl (cai rfl rfl))))) rfl rfl q3, ?_⟩
    obtain ⟨q2, H⟩ := H
    refine ⟨fun hc => ?_, fun hc => ?_⟩
    · replace H := H.1 ((eq_J rfl jl_0 q2 (by decide)).mp hc)
      exact Ev_to (clx (cli rfl (cli (add_J rfl jl_1) rfl))) rfl rfl H
    · replace H := H.2 (fun hz => hc ((eq_J rfl jl_0 q2 (by decide)).mpr hz))
      exact H.trans (rt_i rfl rfl)
-- 89 GlassWires$Painter firstPaint (I)I
theorem v89_0 {E : gw_N} {N : NM} {res : Option Value × gw_H} {x1 : Int} (H : (∃ (r1 : Int) (N1 : NM), Rn 88 [.ref 36] (hs E (jm N)) (some (.int (J r1))) (hs E (jm N1)) ∧ ((0 ≤ x1 ∧ x1 < 64) ∧ ((0 ≤ ((N1 37) x1) ∧ ((N1 37) x1) < 10) ∧ res = (some (.int (J ((N1 39) ((N1 37) x1)))), hs E (jm N1)))))) : Ev 22 89 0 [some (.ref 36), some (.int (J x1))] [] (hs E (jm N)) res := by
  refine w89_0 ?_
  obtain ⟨r1, N1, q3, H⟩ := H
  refine ⟨J r1, jm N1, Rn_to (clx rfl) rfl rfl q3, ?_⟩
  obtain ⟨q1, H⟩ := H
  refine ⟨inb_J rfl q1 (by decide), ?_⟩
  obtain ⟨q2, H⟩ := H
  refine ⟨inb_J (rd_J (jf_base _ _) rfl q1 (by decide)) q2 (by decide), ?_⟩
  exact H.trans (rt_i (rd_J (jf_base _ _) (rd_J (jf_base _ _) rfl q1 (by decide)) q2 (by decide)) rfl)
-- 175 GlassWires paints ()I
theorem v175_0 {E : gw_N} {N : NM} {res : Option Value × gw_H}  (H : ((R (G3 N)) ∧ (((10 : Int) < (G3 N) → res = (some (.int (J (-103))), hs E (jm N))) ∧ (¬ (10 : Int) < (G3 N) → (∃ (r1 : Int) (N1 : NM), Rn 88 [.ref 36] (hs E (jm N)) (some (.int (J r1))) (hs E (jm N1)) ∧ res = (some (.int (J r1)), hs E (jm N1))))))) : Ev 22 175 0 [some (.ref 8)] [] (hs E (jm N)) res := by
  refine w175_0 ?_
  obtain ⟨q1, H⟩ := H
  refine ⟨fun hc => ?_, fun hc => ?_⟩
  · replace H := H.1 ((lt_J jl_10 ((congrArg F3 rfl).trans (t3)) (by decide) q1).mp hc)
    exact H.trans (rt_i jl_m103 rfl)
  · replace H := H.2 (fun hz => hc ((lt_J jl_10 ((congrArg F3 rfl).trans (t3)) (by decide) q1).mpr hz))
    obtain ⟨r1, N1, q2, H⟩ := H
    refine ⟨J r1, jm N1, Rn_to (clx rfl) rfl rfl q2, ?_⟩
    exact H.trans (rt_i rfl rfl)
-- 176 GlassWires paint (I)I
theorem v176_0 {E : gw_N} {N : NM} {res : Option Value × gw_H} {x1 : Int} (H : ((Q5 N x1) ∧ ((R (G5 N x1)) ∧ (((G5 N x1) = 0 → res = (some (.int (J (-101))), hs E (jm N))) ∧ (¬ (G5 N x1) = 0 → ((R (G3 N)) ∧ (((10 : Int) < (G3 N) → res = (some (.int (J (-103))), hs E (jm N))) ∧ (¬ (10 : Int) < (G3 N) → (∃ (r1 : Int) (N1 : NM), Rn 89 [.ref 36, .int (J x1)] (hs E (jm N)) (some (.int (J r1))) (hs E (jm N1)) ∧ res = (some (.int (J r1)), hs E (jm N1))))))))))) : Ev 23 176 0 [some (.ref 8), some (.int (J x1))] [] (hs E (jm N)) res := by
  refine w176_0 ?_
  obtain ⟨q1, H⟩ := H
  refine ⟨Eq.mpr (congr (congrArg P5 rfl) rfl) (p5 q1), ?_⟩
  obtain ⟨q2, H⟩ := H
  refine ⟨fun hc => ?_, fun hc => ?_⟩
  · replace H := H.1 ((eq_J ((congr (congrArg F5 rfl) rfl).trans (t5 q1)) jl_0 q2 (by decide)).mp hc)
    exact H.trans (rt_i jl_m101 rfl)
  · replace H := H.2 (fun hz => hc ((eq_J ((congr (congrArg F5 rfl) rfl).trans (t5 q1)) jl_0 q2 (by decide)).mpr hz))
    obtain ⟨q3, H⟩ := H
    refine ⟨fun hc => ?_, fun hc => ?_⟩
    · replace H := H.1 ((lt_J jl_10 ((congrArg F3 rfl).trans (t3)) (by decide) q3).mp hc)
      exact H.trans (rt_i jl_m103 rfl)
    · replace H := H.2 (fun hz => hc ((lt_J jl_10 ((congrArg F3 rfl).trans (t3)) (by decide) q3).mpr hz))
      obtain ⟨r1, N1, q4, H⟩ := H
      refine ⟨J r1, jm N1, Rn_to (clx (cai rfl rfl)) rfl rfl q4, ?_⟩
      exact H.trans (rt_i rfl rfl)
