/-! by program (wp.py): formulas that are enough -/
-- 28 GlassWires$Glass bleedingEdges ()I
set_option maxRecDepth 20000 in
theorem w28_0 {E : gw_N} {M : Mem} {res : Option Value × gw_H}  (H : Ev 5 28 4 [some (.ref 44), some (.int 0), some (.int 0)] [] (hs E M) res) : Ev 5 28 0 [some (.ref 44), none, none] [] (hs E M) res := by
  refine Ev.steps 4 (pc' := 4) (L' := [some (.ref 44), some (.int 0), some (.int 0)]) (st' := []) rfl ?_
  exact Ev.weak [some (.ref 44), some (.int 0), some (.int 0)] (gw_leb_le ⟨rfl, rfl, rfl, trivial⟩) H

set_option maxRecDepth 20000 in
theorem w28_4 {E : gw_N} {M : Mem} {res : Option Value × gw_H} {x1 : Int32} {x2 : Int32} (H : (((F40 M) ≤ x2 → res = (some (.int x1), hs E M)) ∧ (¬ (F40 M) ≤ x2 → (P29 M x2 0 ∧ (P29 M x2 1 ∧ Ev 5 28 4 [some (.ref 44), some (.int (x1 + ((F206 M (F29 M x2 0)) + (F206 M (F29 M x2 1))))), some (.int (x2 + 1))] [] (hs E M) res))))) : Ev 5 28 4 [some (.ref 44), some (.int x1), some (.int x2)] [] (hs E M) res := by
  refine Ev.steps 3 (pc' := 9) (L' := [some (.ref 44), some (.int x1), some (.int x2)]) (st' := [.ref 9, .int x2]) rfl ?_
  refine Ev.call (y := 40) (args := [.ref 9]) (rest := [.int x2]) (r := some (.int (F40 M))) rfl (s40) ?_
  show Ev 5 28 12 [some (.ref 44), some (.int x1), some (.int x2)] [.int (F40 M), .int x2] _ _
  refine Ev.steps 1 (pc' := if (F40 M) ≤ x2 then 43 else 15) (L' := [some (.ref 44), some (.int x1), some (.int x2)]) (st' := []) rfl ?_
  refine Ev_ite (fun hc => ?_) (fun hc => ?_)
  · replace H := H.1 hc
    refine Ev.steps 1 (pc' := 44) (L' := [some (.ref 44), some (.int x1), some (.int x2)]) (st' := [.int x1]) rfl ?_
    subst H
    exact Ev.ret rfl
  · replace H := H.2 hc
    refine Ev.steps 4 (pc' := 19) (L' := [some (.ref 44), some (.int x1), some (.int x2)]) (st' := [.int 0, .int x2, .ref 44, .int x1]) rfl ?_
    refine Ev.call (y := 29) (args := [.ref 44, .int x2, .int 0]) (rest := [.int x1]) (r := some (.int (F29 M x2 0))) rfl (s29 H.1) ?_
    replace H := H.2
    show Ev 5 28 22 [some (.ref 44), some (.int x1), some (.int x2)] [.int (F29 M x2 0), .int x1] _ _
    refine Ev.call (y := 206) (args := [.int (F29 M x2 0)]) (rest := [.int x1]) (r := some (.int (F206 M (F29 M x2 0)))) rfl (s206) ?_
    show Ev 5 28 25 [some (.ref 44), some (.int x1), some (.int x2)] [.int (F206 M (F29 M x2 0)), .int x1] _ _
    refine Ev.steps 3 (pc' := 28) (L' := [some (.ref 44), some (.int x1), some (.int x2)]) (st' := [.int 1, .int x2, .ref 44, .int (F206 M (F29 M x2 0)), .int x1]) rfl ?_
    refine Ev.call (y := 29) (args := [.ref 44, .int x2, .int 1]) (rest := [.int (F206 M (F29 M x2 0)), .int x1]) (r := some (.int (F29 M x2 1))) rfl (s29 H.1) ?_
    replace H := H.2
    show Ev 5 28 31 [some (.ref 44), some (.int x1), some (.int x2)] [.int (F29 M x2 1), .int (F206 M (F29 M x2 0)), .int x1] _ _
    refine Ev.call (y := 206) (args := [.int (F29 M x2 1)]) (rest := [.int (F206 M (F29 M x2 0)), .int x1]) (r := some (.int (F206 M (F29 M x2 1)))) rfl (s206) ?_
    show Ev 5 28 34 [some (.ref 44), some (.int x1), some (.int x2)] [.int (F206 M (F29 M x2 1)), .int (F206 M (F29 M x2 0)), .int x1] _ _
    refine Ev.steps 5 (pc' := 4) (L' := [some (.ref 44), some (.int (x1 + ((F206 M (F29 M x2 0)) + (F206 M (F29 M x2 1))))), some (.int (x2 + 1))]) (st' := []) rfl ?_
    exact Ev.weak [some (.ref 44), some (.int (x1 + ((F206 M (F29 M x2 0)) + (F206 M (F29 M x2 1))))), some (.int (x2 + 1))] (gw_leb_le ⟨rfl, rfl, rfl, trivial⟩) H

-- 73 GlassWires$Net edgesMeeting (II)I
set_option maxRecDepth 20000 in
theorem w73_0 {E : gw_N} {M : Mem} {res : Option Value × gw_H} {x1 : Int32} {x2 : Int32} (H : Ev 5 73 5 [some (.ref 22), some (.int x1), some (.int x2), some (.int 0), some (.int 0)] [] (hs E M) res) : Ev 5 73 0 [some (.ref 22), some (.int x1), some (.int x2), none, none] [] (hs E M) res := by
  refine Ev.steps 4 (pc' := 5) (L' := [some (.ref 22), some (.int x1), some (.int x2), some (.int 0), some (.int 0)]) (st' := []) rfl ?_
  exact Ev.weak [some (.ref 22), some (.int x1), some (.int x2), some (.int 0), some (.int 0)] (gw_leb_le ⟨rfl, rfl, rfl, rfl, rfl, trivial⟩) H

set_option maxRecDepth 20000 in
theorem w73_5 {E : gw_N} {M : Mem} {res : Option Value × gw_H} {x1 : Int32} {x2 : Int32} {x3 : Int32} {x4 : Int32} (H : ((4 ≤ x4 → res = (some (.int x3), hs E M)) ∧ (¬ 4 ≤ x4 → (P74 M x1 x2 x4 ∧ Ev 5 73 5 [some (.ref 22), some (.int x1), some (.int x2), some (.int (x3 + (F206 M (F74 M x1 x2 x4)))), some (.int (x4 + 1))] [] (hs E M) res)))) : Ev 5 73 5 [some (.ref 22), some (.int x1), some (.int x2), some (.int x3), some (.int x4)] [] (hs E M) res := by
  refine Ev.steps 3 (pc' := if 4 ≤ x4 then 31 else 11) (L' := [some (.ref 22), some (.int x1), some (.int x2), some (.int x3), some (.int x4)]) (st' := []) rfl ?_
  refine Ev_ite (fun hc => ?_) (fun hc => ?_)
  · replace H := H.1 hc
    refine Ev.steps 1 (pc' := 32) (L' := [some (.ref 22), some (.int x1), some (.int x2), some (.int x3), some (.int x4)]) (st' := [.int x3]) rfl ?_
    subst H
    exact Ev.ret rfl
  · replace H := H.2 hc
    refine Ev.steps 5 (pc' := 17) (L' := [some (.ref 22), some (.int x1), some (.int x2), some (.int x3), some (.int x4)]) (st' := [.int x4, .int x2, .int x1, .ref 22, .int x3]) rfl ?_
    refine Ev.call (y := 74) (args := [.ref 22, .int x1, .int x2, .int x4]) (rest := [.int x3]) (r := some (.int (F74 M x1 x2 x4))) rfl (s74 H.1) ?_
    replace H := H.2
    show Ev 5 73 20 [some (.ref 22), some (.int x1), some (.int x2), some (.int x3), some (.int x4)] [.int (F74 M x1 x2 x4), .int x3] _ _
    refine Ev.call (y := 206) (args := [.int (F74 M x1 x2 x4)]) (rest := [.int x3]) (r := some (.int (F206 M (F74 M x1 x2 x4)))) rfl (s206) ?_
    show Ev 5 73 23 [some (.ref 22), some (.int x1), some (.int x2), some (.int x3), some (.int x4)] [.int (F206 M (F74 M x1 x2 x4)), .int x3] _ _
    refine Ev.steps 4 (pc' := 5) (L' := [some (.ref 22), some (.int x1), some (.int x2), some (.int (x3 + (F206 M (F74 M x1 x2 x4)))), some (.int (x4 + 1))]) (st' := []) rfl ?_
    exact Ev.weak [some (.ref 22), some (.int x1), some (.int x2), some (.int (x3 + (F206 M (F74 M x1 x2 x4)))), some (.int (x4 + 1))] (gw_leb_le ⟨rfl, rfl, rfl, rfl, rfl, trivial⟩) H

-- 121 GlassWires$Rods fewest (LGlassWires$Wires;)I
set_option maxRecDepth 20000 in
theorem w121_0 {E : gw_N} {M : Mem} {res : Option Value × gw_H}  (H : (∃ (r1 : Int32) (M1 : Mem), Rn 124 [.ref 54, .ref 14] (hs E M) (some (.int r1)) (hs E M1) ∧ ((1000000 ≤ r1 → res = (some (.int (-1)), hs E M1)) ∧ (¬ 1000000 ≤ r1 → res = (some (.int (r1 / 1000)), hs E M1))))) : Ev 5 121 0 [some (.ref 54), some (.ref 14), none] [] (hs E M) res := by
  refine Ev.steps 2 (pc' := 2) (L' := [some (.ref 54), some (.ref 14), none]) (st' := [.ref 14, .ref 54]) rfl ?_
  obtain ⟨r1, M1, hr1, H⟩ := H
  refine Ev.call (y := 124) (args := [.ref 54, .ref 14]) (rest := []) (r := (some (.int r1))) rfl hr1 ?_
  show Ev 5 121 5 [some (.ref 54), some (.ref 14), none] [.int r1] _ _
  refine Ev.steps 4 (pc' := if 1000000 ≤ r1 then 20 else 12) (L' := [some (.ref 54), some (.ref 14), some (.int r1)]) (st' := []) rfl ?_
  refine Ev_ite (fun hc => ?_) (fun hc => ?_)
  · replace H := H.1 hc
    refine Ev.steps 1 (pc' := 21) (L' := [some (.ref 54), some (.ref 14), some (.int r1)]) (st' := [.int (-1)]) rfl ?_
    subst H
    exact Ev.ret rfl
  · replace H := H.2 hc
    refine Ev.steps 2 (pc' := 16) (L' := [some (.ref 54), some (.ref 14), some (.int r1)]) (st' := [.int 1000, .int r1]) rfl ?_
    refine Ev.dv (y := 1000) (pc' := 17) (L' := [some (.ref 54), some (.ref 14), some (.int r1)]) (st' := [.int (r1 / 1000)]) (by decide) rfl ?_
    refine Ev.steps 1 (pc' := 21) (L' := [some (.ref 54), some (.ref 14), some (.int r1)]) (st' := [.int (r1 / 1000)]) rfl ?_
    subst H
    exact Ev.ret rfl

-- 122 GlassWires$Rods waste (LGlassWires$Wires;)I
set_option maxRecDepth 20000 in
theorem w122_0 {E : gw_N} {M : Mem} {res : Option Value × gw_H}  (H : (∃ (r1 : Int32) (M1 : Mem), Rn 124 [.ref 54, .ref 14] (hs E M) (some (.int r1)) (hs E M1) ∧ ((1000000 ≤ r1 → res = (some (.int (-1)), hs E M1)) ∧ (¬ 1000000 ≤ r1 → (∃ (r2 : Int32), Rn 123 [.ref 14] (hs E M1) (some (.int r2)) (hs E M1) ∧ (inb r2 256 ∧ res = (some (.int ((r1 - r1 / 1000 * 1000) - ((M1 57) (r2 : Int32).toNatClampNeg))), hs E M1))))))) : Ev 5 122 0 [some (.ref 54), some (.ref 14), none] [] (hs E M) res := by
  refine Ev.steps 2 (pc' := 2) (L' := [some (.ref 54), some (.ref 14), none]) (st' := [.ref 14, .ref 54]) rfl ?_
  obtain ⟨r1, M1, hr1, H⟩ := H
  refine Ev.call (y := 124) (args := [.ref 54, .ref 14]) (rest := []) (r := (some (.int r1))) rfl hr1 ?_
  show Ev 5 122 5 [some (.ref 54), some (.ref 14), none] [.int r1] _ _
  refine Ev.steps 4 (pc' := if 1000000 ≤ r1 then 30 else 12) (L' := [some (.ref 54), some (.ref 14), some (.int r1)]) (st' := []) rfl ?_
  refine Ev_ite (fun hc => ?_) (fun hc => ?_)
  · replace H := H.1 hc
    refine Ev.steps 1 (pc' := 31) (L' := [some (.ref 54), some (.ref 14), some (.int r1)]) (st' := [.int (-1)]) rfl ?_
    subst H
    exact Ev.ret rfl
  · replace H := H.2 hc
    refine Ev.steps 2 (pc' := 16) (L' := [some (.ref 54), some (.ref 14), some (.int r1)]) (st' := [.int 1000, .int r1]) rfl ?_
    refine Ev.dv (y := 1000) (pc' := 17) (L' := [some (.ref 54), some (.ref 14), some (.int r1)]) (st' := [.int (r1 - r1 / 1000 * 1000)]) (by decide) rfl ?_
    refine Ev.steps 3 (pc' := 22) (L' := [some (.ref 54), some (.ref 14), some (.int r1)]) (st' := [.ref 14, .ref 57, .int (r1 - r1 / 1000 * 1000)]) rfl ?_
    obtain ⟨r2, hr2, H⟩ := H
    refine Ev.call (y := 123) (args := [.ref 14]) (rest := [.ref 57, .int (r1 - r1 / 1000 * 1000)]) (r := (some (.int r2))) rfl hr2 ?_
    show Ev 5 122 25 [some (.ref 54), some (.ref 14), some (.int r1)] [.int r2, .ref 57, .int (r1 - r1 / 1000 * 1000)] _ _
    refine Ev.rd (i := r2) (n := 256) (pc' := 26) (L' := [some (.ref 54), some (.ref 14), some (.int r1)]) (st' := [.int ((M1 57) (r2 : Int32).toNatClampNeg), .int (r1 - r1 / 1000 * 1000)]) H.1 rfl ?_
    replace H := H.2
    refine Ev.steps 2 (pc' := 31) (L' := [some (.ref 54), some (.ref 14), some (.int r1)]) (st' := [.int ((r1 - r1 / 1000 * 1000) - ((M1 57) (r2 : Int32).toNatClampNeg))]) rfl ?_
    subst H
    exact Ev.ret rfl

-- 134 GlassWires$Tension bent ()I
set_option maxRecDepth 20000 in
theorem w134_0 {E : gw_N} {M : Mem} {res : Option Value × gw_H}  (H : (P104 M ∧ (((F104 M) ≤ 0 → res = (some (.int 0), hs E M)) ∧ (¬ (F104 M) ≤ 0 → (∃ (r1 : Int32), Rn 132 [.ref 53] (hs E M) (some (.int r1)) (hs E M) ∧ (¬ (F104 M) = 0 ∧ res = (some (.int (r1 / (F104 M))), hs E M))))))) : Ev 5 134 0 [some (.ref 53), none] [] (hs E M) res := by
  refine Ev.steps 2 (pc' := 4) (L' := [some (.ref 53), none]) (st' := [.ref 40]) rfl ?_
  refine Ev.call (y := 104) (args := [.ref 40]) (rest := []) (r := some (.int (F104 M))) rfl (s104 H.1) ?_
  replace H := H.2
  show Ev 5 134 7 [some (.ref 53), none] [.int (F104 M)] _ _
  refine Ev.steps 3 (pc' := if (F104 M) ≤ 0 then 21 else 12) (L' := [some (.ref 53), some (.int (F104 M))]) (st' := []) rfl ?_
  refine Ev_ite (fun hc => ?_) (fun hc => ?_)
  · replace H := H.1 hc
    refine Ev.steps 1 (pc' := 22) (L' := [some (.ref 53), some (.int (F104 M))]) (st' := [.int 0]) rfl ?_
    subst H
    exact Ev.ret rfl
  · replace H := H.2 hc
    refine Ev.steps 1 (pc' := 13) (L' := [some (.ref 53), some (.int (F104 M))]) (st' := [.ref 53]) rfl ?_
    obtain ⟨r1, hr1, H⟩ := H
    refine Ev.call (y := 132) (args := [.ref 53]) (rest := []) (r := (some (.int r1))) rfl hr1 ?_
    show Ev 5 134 16 [some (.ref 53), some (.int (F104 M))] [.int r1] _ _
    refine Ev.steps 1 (pc' := 17) (L' := [some (.ref 53), some (.int (F104 M))]) (st' := [.int (F104 M), .int r1]) rfl ?_
    refine Ev.dv (y := (F104 M)) (pc' := 18) (L' := [some (.ref 53), some (.int (F104 M))]) (st' := [.int (r1 / (F104 M))]) H.1 rfl ?_
    replace H := H.2
    refine Ev.steps 1 (pc' := 22) (L' := [some (.ref 53), some (.int (F104 M))]) (st' := [.int (r1 / (F104 M))]) rfl ?_
    subst H
    exact Ev.ret rfl

-- 136 GlassWires$Tension strainOf (I)I
set_option maxRecDepth 20000 in
theorem w136_0 {E : gw_N} {M : Mem} {res : Option Value × gw_H} {x1 : Int32} (H : (∃ (r1 : Int32), Rn 132 [.ref 53] (hs E M) (some (.int r1)) (hs E M) ∧ res = (some (.int ((x1 * (F310 M r1)) / 1000)), hs E M))) : Ev 5 136 0 [some (.ref 53), some (.int x1)] [] (hs E M) res := by
  refine Ev.steps 2 (pc' := 2) (L' := [some (.ref 53), some (.int x1)]) (st' := [.ref 53, .int x1]) rfl ?_
  obtain ⟨r1, hr1, H⟩ := H
  refine Ev.call (y := 132) (args := [.ref 53]) (rest := [.int x1]) (r := (some (.int r1))) rfl hr1 ?_
  show Ev 5 136 5 [some (.ref 53), some (.int x1)] [.int r1, .int x1] _ _
  refine Ev.call (y := 310) (args := [.int r1]) (rest := [.int x1]) (r := some (.int (F310 M r1))) rfl (s310) ?_
  show Ev 5 136 8 [some (.ref 53), some (.int x1)] [.int (F310 M r1), .int x1] _ _
  refine Ev.steps 2 (pc' := 12) (L' := [some (.ref 53), some (.int x1)]) (st' := [.int 1000, .int (x1 * (F310 M r1))]) rfl ?_
  refine Ev.dv (y := 1000) (pc' := 13) (L' := [some (.ref 53), some (.int x1)]) (st' := [.int ((x1 * (F310 M r1)) / 1000)]) (by decide) rfl ?_
  subst H
  exact Ev.ret rfl

-- 137 GlassWires$Tension longestStep (I)I
set_option maxRecDepth 20000 in
theorem w137_0 {E : gw_N} {M : Mem} {res : Option Value × gw_H} {x1 : Int32} (H : (∃ (r1 : Int32), Rn 132 [.ref 53] (hs E M) (some (.int r1)) (hs E M) ∧ (((F310 M r1) = 0 → res = (some (.int x1), hs E M)) ∧ (¬ (F310 M r1) = 0 → (P105 M ∧ (¬ (F310 M r1) = 0 ∧ res = (some (.int (F312 M x1 (((1000 * ((F105 M) + 1)) - 1) / (F310 M r1)))), hs E M))))))) : Ev 5 137 0 [some (.ref 53), some (.int x1), none] [] (hs E M) res := by
  refine Ev.steps 1 (pc' := 1) (L' := [some (.ref 53), some (.int x1), none]) (st' := [.ref 53]) rfl ?_
  obtain ⟨r1, hr1, H⟩ := H
  refine Ev.call (y := 132) (args := [.ref 53]) (rest := []) (r := (some (.int r1))) rfl hr1 ?_
  show Ev 5 137 4 [some (.ref 53), some (.int x1), none] [.int r1] _ _
  refine Ev.call (y := 310) (args := [.int r1]) (rest := []) (r := some (.int (F310 M r1))) rfl (s310) ?_
  show Ev 5 137 7 [some (.ref 53), some (.int x1), none] [.int (F310 M r1)] _ _
  refine Ev.steps 3 (pc' := if (F310 M r1) = 0 then 12 else 14) (L' := [some (.ref 53), some (.int x1), some (.int (F310 M r1))]) (st' := []) rfl ?_
  refine Ev_ite (fun hc => ?_) (fun hc => ?_)
  · replace H := H.1 hc
    refine Ev.steps 1 (pc' := 13) (L' := [some (.ref 53), some (.int x1), some (.int (F310 M r1))]) (st' := [.int x1]) rfl ?_
    subst H
    exact Ev.ret rfl
  · replace H := H.2 hc
    refine Ev.steps 4 (pc' := 22) (L' := [some (.ref 53), some (.int x1), some (.int (F310 M r1))]) (st' := [.ref 40, .int 1000, .int x1]) rfl ?_
    refine Ev.call (y := 105) (args := [.ref 40]) (rest := [.int 1000, .int x1]) (r := some (.int (F105 M))) rfl (s105 H.1) ?_
    replace H := H.2
    show Ev 5 137 25 [some (.ref 53), some (.int x1), some (.int (F310 M r1))] [.int (F105 M), .int 1000, .int x1] _ _
    refine Ev.steps 6 (pc' := 31) (L' := [some (.ref 53), some (.int x1), some (.int (F310 M r1))]) (st' := [.int (F310 M r1), .int ((1000 * ((F105 M) + 1)) - 1), .int x1]) rfl ?_
    refine Ev.dv (y := (F310 M r1)) (pc' := 32) (L' := [some (.ref 53), some (.int x1), some (.int (F310 M r1))]) (st' := [.int (((1000 * ((F105 M) + 1)) - 1) / (F310 M r1)), .int x1]) H.1 rfl ?_
    replace H := H.2
    refine Ev.call (y := 312) (args := [.int x1, .int (((1000 * ((F105 M) + 1)) - 1) / (F310 M r1))]) (rest := []) (r := some (.int (F312 M x1 (((1000 * ((F105 M) + 1)) - 1) / (F310 M r1))))) rfl (s312) ?_
    show Ev 5 137 35 [some (.ref 53), some (.int x1), some (.int (F310 M r1))] [.int (F312 M x1 (((1000 * ((F105 M) + 1)) - 1) / (F310 M r1)))] _ _
    subst H
    exact Ev.ret rfl

-- 156 GlassWires$Wires add (LGlassWires$Page;II)I
set_option maxRecDepth 20000 in
theorem w156_0 {E : gw_N} {M : Mem} {res : Option Value × gw_H} {x2 : Int32} {x3 : Int32} (H : ((((M 14) 7) < 30 → (inb ((M 14) 7) 30 ∧ (inb ((M 14) 7) 30 ∧ (inb ((M 14) 7) 30 ∧ (inb ((M 14) 7) 30 ∧ (inb ((M 14) 7) 30 ∧ (∃ (M1 : Mem), Rn 157 [.ref 14, .int ((M 14) 7), .ref 12, .int x2, .int x3] (hs E (up (up (up (up (up (up M 14 (upd (M 14) 7 (((M 14) 7) + 1))) 15 (upd (M 15) (((M 14) 7) : Int32).toNatClampNeg (1 &&& 1))) 16 (upd (M 16) (((M 14) 7) : Int32).toNatClampNeg (0 &&& 1))) 17 (upd (M 17) (((M 14) 7) : Int32).toNatClampNeg (F312 (up (up (up M 14 (upd (M 14) 7 (((M 14) 7) + 1))) 15 (upd (M 15) (((M 14) 7) : Int32).toNatClampNeg (1 &&& 1))) 16 (upd (M 16) (((M 14) 7) : Int32).toNatClampNeg (0 &&& 1))) (F78 (up (up (up M 14 (upd (M 14) 7 (((M 14) 7) + 1))) 15 (upd (M 15) (((M 14) 7) : Int32).toNatClampNeg (1 &&& 1))) 16 (upd (M 16) (((M 14) 7) : Int32).toNatClampNeg (0 &&& 1)))) 24))) 18 (upd (M 18) (((M 14) 7) : Int32).toNatClampNeg 0)) 19 (upd (M 19) (((M 14) 7) : Int32).toNatClampNeg 0))) none (hs E M1) ∧ res = (some (.int ((M 14) 7)), hs E M1)))))))) ∧ (¬ ((M 14) 7) < 30 → res = (some (.int (-104)), hs E M)))) : Ev 5 156 0 [some (.ref 14), some (.ref 12), some (.int x2), some (.int x3), none] [] (hs E M) res := by
  refine Ev.steps 4 (pc' := if ((M 14) 7) < 30 then 12 else 9) (L' := [some (.ref 14), some (.ref 12), some (.int x2), some (.int x3), none]) (st' := []) rfl ?_
  refine Ev_ite (fun hc => ?_) (fun hc => ?_)
  · replace H := H.1 hc
    refine Ev.steps 8 (pc' := 25) (L' := [some (.ref 14), some (.ref 12), some (.int x2), some (.int x3), some (.int ((M 14) 7))]) (st' := [.int (((M 14) 7) + 1), .ref 14]) rfl ?_
    refine Ev.mem (a := 14) (g := (upd (M 14) 7 (((M 14) 7) + 1))) (pc' := 28) (L' := [some (.ref 14), some (.ref 12), some (.int x2), some (.int x3), some (.int ((M 14) 7))]) (st' := []) (by decide) rfl ?_
    refine Ev.steps 4 (pc' := 35) (L' := [some (.ref 14), some (.ref 12), some (.int x2), some (.int x3), some (.int ((M 14) 7))]) (st' := [.int 1, .int ((M 14) 7), .ref 15]) rfl ?_
    refine Ev.wr (a := 15) (g := (upd (M 15) (((M 14) 7) : Int32).toNatClampNeg (1 &&& 1))) (i := ((M 14) 7)) (n := 30) (pc' := 36) (L' := [some (.ref 14), some (.ref 12), some (.int x2), some (.int x3), some (.int ((M 14) 7))]) (st' := []) (by decide) H.1 rfl ?_
    replace H := H.2
    refine Ev.steps 4 (pc' := 43) (L' := [some (.ref 14), some (.ref 12), some (.int x2), some (.int x3), some (.int ((M 14) 7))]) (st' := [.int 0, .int ((M 14) 7), .ref 16]) rfl ?_
    refine Ev.wr (a := 16) (g := (upd (M 16) (((M 14) 7) : Int32).toNatClampNeg (0 &&& 1))) (i := ((M 14) 7)) (n := 30) (pc' := 44) (L' := [some (.ref 14), some (.ref 12), some (.int x2), some (.int x3), some (.int ((M 14) 7))]) (st' := []) (by decide) H.1 rfl ?_
    replace H := H.2
    refine Ev.steps 4 (pc' := 51) (L' := [some (.ref 14), some (.ref 12), some (.int x2), some (.int x3), some (.int ((M 14) 7))]) (st' := [.ref 12, .int ((M 14) 7), .ref 17]) rfl ?_
    refine Ev.call (y := 78) (args := [.ref 12]) (rest := [.int ((M 14) 7), .ref 17]) (r := some (.int (F78 (up (up (up M 14 (upd (M 14) 7 (((M 14) 7) + 1))) 15 (upd (M 15) (((M 14) 7) : Int32).toNatClampNeg (1 &&& 1))) 16 (upd (M 16) (((M 14) 7) : Int32).toNatClampNeg (0 &&& 1)))))) rfl (s78) ?_
    show Ev 5 156 54 [some (.ref 14), some (.ref 12), some (.int x2), some (.int x3), some (.int ((M 14) 7))] [.int (F78 (up (up (up M 14 (upd (M 14) 7 (((M 14) 7) + 1))) 15 (upd (M 15) (((M 14) 7) : Int32).toNatClampNeg (1 &&& 1))) 16 (upd (M 16) (((M 14) 7) : Int32).toNatClampNeg (0 &&& 1)))), .int ((M 14) 7), .ref 17] _ _
    refine Ev.steps 1 (pc' := 56) (L' := [some (.ref 14), some (.ref 12), some (.int x2), some (.int x3), some (.int ((M 14) 7))]) (st' := [.int 24, .int (F78 (up (up (up M 14 (upd (M 14) 7 (((M 14) 7) + 1))) 15 (upd (M 15) (((M 14) 7) : Int32).toNatClampNeg (1 &&& 1))) 16 (upd (M 16) (((M 14) 7) : Int32).toNatClampNeg (0 &&& 1)))), .int ((M 14) 7), .ref 17]) rfl ?_
    refine Ev.call (y := 312) (args := [.int (F78 (up (up (up M 14 (upd (M 14) 7 (((M 14) 7) + 1))) 15 (upd (M 15) (((M 14) 7) : Int32).toNatClampNeg (1 &&& 1))) 16 (upd (M 16) (((M 14) 7) : Int32).toNatClampNeg (0 &&& 1)))), .int 24]) (rest := [.int ((M 14) 7), .ref 17]) (r := some (.int (F312 (up (up (up M 14 (upd (M 14) 7 (((M 14) 7) + 1))) 15 (upd (M 15) (((M 14) 7) : Int32).toNatClampNeg (1 &&& 1))) 16 (upd (M 16) (((M 14) 7) : Int32).toNatClampNeg (0 &&& 1))) (F78 (up (up (up M 14 (upd (M 14) 7 (((M 14) 7) + 1))) 15 (upd (M 15) (((M 14) 7) : Int32).toNatClampNeg (1 &&& 1))) 16 (upd (M 16) (((M 14) 7) : Int32).toNatClampNeg (0 &&& 1)))) 24))) rfl (s312) ?_
    show Ev 5 156 59 [some (.ref 14), some (.ref 12), some (.int x2), some (.int x3), some (.int ((M 14) 7))] [.int (F312 (up (up (up M 14 (upd (M 14) 7 (((M 14) 7) + 1))) 15 (upd (M 15) (((M 14) 7) : Int32).toNatClampNeg (1 &&& 1))) 16 (upd (M 16) (((M 14) 7) : Int32).toNatClampNeg (0 &&& 1))) (F78 (up (up (up M 14 (upd (M 14) 7 (((M 14) 7) + 1))) 15 (upd (M 15) (((M 14) 7) : Int32).toNatClampNeg (1 &&& 1))) 16 (upd (M 16) (((M 14) 7) : Int32).toNatClampNeg (0 &&& 1)))) 24), .int ((M 14) 7), .ref 17] _ _
    refine Ev.wr (a := 17) (g := (upd (M 17) (((M 14) 7) : Int32).toNatClampNeg (F312 (up (up (up M 14 (upd (M 14) 7 (((M 14) 7) + 1))) 15 (upd (M 15) (((M 14) 7) : Int32).toNatClampNeg (1 &&& 1))) 16 (upd (M 16) (((M 14) 7) : Int32).toNatClampNeg (0 &&& 1))) (F78 (up (up (up M 14 (upd (M 14) 7 (((M 14) 7) + 1))) 15 (upd (M 15) (((M 14) 7) : Int32).toNatClampNeg (1 &&& 1))) 16 (upd (M 16) (((M 14) 7) : Int32).toNatClampNeg (0 &&& 1)))) 24))) (i := ((M 14) 7)) (n := 30) (pc' := 60) (L' := [some (.ref 14), some (.ref 12), some (.int x2), some (.int x3), some (.int ((M 14) 7))]) (st' := []) (by decide) H.1 rfl ?_
    replace H := H.2
    refine Ev.steps 4 (pc' := 67) (L' := [some (.ref 14), some (.ref 12), some (.int x2), some (.int x3), some (.int ((M 14) 7))]) (st' := [.int 0, .int ((M 14) 7), .ref 18]) rfl ?_
    refine Ev.wr (a := 18) (g := (upd (M 18) (((M 14) 7) : Int32).toNatClampNeg 0)) (i := ((M 14) 7)) (n := 30) (pc' := 68) (L' := [some (.ref 14), some (.ref 12), some (.int x2), some (.int x3), some (.int ((M 14) 7))]) (st' := []) (by decide) H.1 rfl ?_
    replace H := H.2
    refine Ev.steps 4 (pc' := 75) (L' := [some (.ref 14), some (.ref 12), some (.int x2), some (.int x3), some (.int ((M 14) 7))]) (st' := [.int 0, .int ((M 14) 7), .ref 19]) rfl ?_
    refine Ev.wr (a := 19) (g := (upd (M 19) (((M 14) 7) : Int32).toNatClampNeg 0)) (i := ((M 14) 7)) (n := 30) (pc' := 76) (L' := [some (.ref 14), some (.ref 12), some (.int x2), some (.int x3), some (.int ((M 14) 7))]) (st' := []) (by decide) H.1 rfl ?_
    replace H := H.2
    refine Ev.steps 5 (pc' := 82) (L' := [some (.ref 14), some (.ref 12), some (.int x2), some (.int x3), some (.int ((M 14) 7))]) (st' := [.int x3, .int x2, .ref 12, .int ((M 14) 7), .ref 14]) rfl ?_
    obtain ⟨M1, hr1, H⟩ := H
    refine Ev.call (y := 157) (args := [.ref 14, .int ((M 14) 7), .ref 12, .int x2, .int x3]) (rest := []) (r := none) rfl hr1 ?_
    show Ev 5 156 85 [some (.ref 14), some (.ref 12), some (.int x2), some (.int x3), some (.int ((M 14) 7))] [] _ _
    refine Ev.steps 1 (pc' := 87) (L' := [some (.ref 14), some (.ref 12), some (.int x2), some (.int x3), some (.int ((M 14) 7))]) (st' := [.int ((M 14) 7)]) rfl ?_
    subst H
    exact Ev.ret rfl
  · replace H := H.2 hc
    refine Ev.steps 1 (pc' := 11) (L' := [some (.ref 14), some (.ref 12), some (.int x2), some (.int x3), none]) (st' := [.int (-104)]) rfl ?_
    subst H
    exact Ev.ret rfl

-- 197 GlassWires harms (II)I
set_option maxRecDepth 20000 in
theorem w197_0 {E : gw_N} {M : Mem} {res : Option Value × gw_H} {x1 : Int32} {x2 : Int32} (H : (P5 M x1 ∧ (((F5 M x1) = 0 → res = (some (.int (-101)), hs E M)) ∧ (¬ (F5 M x1) = 0 → (((F204 M x2) = 0 → res = (some (.int (-102)), hs E M)) ∧ (¬ (F204 M x2) = 0 → (∃ (r1 : Int32), Rn 31 [.ref 44, .int x1, .int x2] (hs E M) (some (.int r1)) (hs E M) ∧ res = (some (.int r1), hs E M)))))))) : Ev 5 197 0 [some (.ref 8), some (.int x1), some (.int x2)] [] (hs E M) res := by
  refine Ev.steps 3 (pc' := 5) (L' := [some (.ref 8), some (.int x1), some (.int x2)]) (st' := [.int x1, .ref 32]) rfl ?_
  refine Ev.call (y := 5) (args := [.ref 32, .int x1]) (rest := []) (r := some (.int (F5 M x1))) rfl (s5 H.1) ?_
  replace H := H.2
  show Ev 5 197 8 [some (.ref 8), some (.int x1), some (.int x2)] [.int (F5 M x1)] _ _
  refine Ev.steps 1 (pc' := if (F5 M x1) = 0 then 11 else 14) (L' := [some (.ref 8), some (.int x1), some (.int x2)]) (st' := []) rfl ?_
  refine Ev_ite (fun hc => ?_) (fun hc => ?_)
  · replace H := H.1 hc
    refine Ev.steps 1 (pc' := 13) (L' := [some (.ref 8), some (.int x1), some (.int x2)]) (st' := [.int (-101)]) rfl ?_
    subst H
    exact Ev.ret rfl
  · replace H := H.2 hc
    refine Ev.steps 1 (pc' := 15) (L' := [some (.ref 8), some (.int x1), some (.int x2)]) (st' := [.int x2]) rfl ?_
    refine Ev.call (y := 204) (args := [.int x2]) (rest := []) (r := some (.int (F204 M x2))) rfl (s204) ?_
    show Ev 5 197 18 [some (.ref 8), some (.int x1), some (.int x2)] [.int (F204 M x2)] _ _
    refine Ev.steps 1 (pc' := if (F204 M x2) = 0 then 33 else 21) (L' := [some (.ref 8), some (.int x1), some (.int x2)]) (st' := []) rfl ?_
    refine Ev_ite (fun hc => ?_) (fun hc => ?_)
    · replace H := H.1 hc
      refine Ev.steps 1 (pc' := 35) (L' := [some (.ref 8), some (.int x1), some (.int x2)]) (st' := [.int (-102)]) rfl ?_
      subst H
      exact Ev.ret rfl
    · replace H := H.2 hc
      refine Ev.steps 4 (pc' := 27) (L' := [some (.ref 8), some (.int x1), some (.int x2)]) (st' := [.int x2, .int x1, .ref 44]) rfl ?_
      obtain ⟨r1, hr1, H⟩ := H
      refine Ev.call (y := 31) (args := [.ref 44, .int x1, .int x2]) (rest := []) (r := (some (.int r1))) rfl hr1 ?_
      show Ev 5 197 30 [some (.ref 8), some (.int x1), some (.int x2)] [.int r1] _ _
      refine Ev.steps 1 (pc' := 35) (L' := [some (.ref 8), some (.int x1), some (.int x2)]) (st' := [.int r1]) rfl ?_
      subst H
      exact Ev.ret rfl

-- 198 GlassWires safe (III)I
set_option maxRecDepth 20000 in
theorem w198_0 {E : gw_N} {M : Mem} {res : Option Value × gw_H} {x1 : Int32} {x2 : Int32} {x3 : Int32} (H : (P5 M x1 ∧ (((F5 M x1) = 0 → res = (some (.int (-101)), hs E M)) ∧ (¬ (F5 M x1) = 0 → (((F94 M x2) = 0 → res = (some (.int (-101)), hs E M)) ∧ (¬ (F94 M x2) = 0 → ((x3 = 0 → (P99 M x2 ∧ (∃ (r1 : Int32), Rn 32 [.ref 44, .int x1] (hs E M) (some (.int r1)) (hs E M) ∧ (((F99 M x2) ≤ r1 → ((x3 = 0 → res = (some (.int (F99 M x2)), hs E M)) ∧ (¬ x3 = 0 → res = (some (.int r1), hs E M)))) ∧ (¬ (F99 M x2) ≤ r1 → res = (some (.int (-1)), hs E M)))))) ∧ (¬ x3 = 0 → ((x3 = 1 → (P99 M x2 ∧ (∃ (r2 : Int32), Rn 32 [.ref 44, .int x1] (hs E M) (some (.int r2)) (hs E M) ∧ (((F99 M x2) ≤ r2 → ((x3 = 0 → res = (some (.int (F99 M x2)), hs E M)) ∧ (¬ x3 = 0 → res = (some (.int r2), hs E M)))) ∧ (¬ (F99 M x2) ≤ r2 → res = (some (.int (-1)), hs E M)))))) ∧ (¬ x3 = 1 → res = (some (.int (-102)), hs E M))))))))))) : Ev 5 198 0 [some (.ref 8), some (.int x1), some (.int x2), some (.int x3), none, none] [] (hs E M) res := by
  refine Ev.steps 3 (pc' := 5) (L' := [some (.ref 8), some (.int x1), some (.int x2), some (.int x3), none, none]) (st' := [.int x1, .ref 32]) rfl ?_
  refine Ev.call (y := 5) (args := [.ref 32, .int x1]) (rest := []) (r := some (.int (F5 M x1))) rfl (s5 H.1) ?_
  replace H := H.2
  show Ev 5 198 8 [some (.ref 8), some (.int x1), some (.int x2), some (.int x3), none, none] [.int (F5 M x1)] _ _
  refine Ev.steps 1 (pc' := if (F5 M x1) = 0 then 18 else 11) (L' := [some (.ref 8), some (.int x1), some (.int x2), some (.int x3), none, none]) (st' := []) rfl ?_
  refine Ev_ite (fun hc => ?_) (fun hc => ?_)
  · replace H := H.1 hc
    refine Ev.steps 1 (pc' := 20) (L' := [some (.ref 8), some (.int x1), some (.int x2), some (.int x3), none, none]) (st' := [.int (-101)]) rfl ?_
    subst H
    exact Ev.ret rfl
  · replace H := H.2 hc
    refine Ev.steps 1 (pc' := 12) (L' := [some (.ref 8), some (.int x1), some (.int x2), some (.int x3), none, none]) (st' := [.int x2]) rfl ?_
    refine Ev.call (y := 94) (args := [.int x2]) (rest := []) (r := some (.int (F94 M x2))) rfl (s94) ?_
    show Ev 5 198 15 [some (.ref 8), some (.int x1), some (.int x2), some (.int x3), none, none] [.int (F94 M x2)] _ _
    refine Ev.steps 1 (pc' := if (F94 M x2) = 0 then 18 else 21) (L' := [some (.ref 8), some (.int x1), some (.int x2), some (.int x3), none, none]) (st' := []) rfl ?_
    refine Ev_ite (fun hc => ?_) (fun hc => ?_)
    · replace H := H.1 hc
      refine Ev.steps 1 (pc' := 20) (L' := [some (.ref 8), some (.int x1), some (.int x2), some (.int x3), none, none]) (st' := [.int (-101)]) rfl ?_
      subst H
      exact Ev.ret rfl
    · replace H := H.2 hc
      refine Ev.steps 2 (pc' := if x3 = 0 then 33 else 25) (L' := [some (.ref 8), some (.int x1), some (.int x2), some (.int x3), none, none]) (st' := []) rfl ?_
      refine Ev_ite (fun hc => ?_) (fun hc => ?_)
      · replace H := H.1 hc
        refine Ev.steps 3 (pc' := 38) (L' := [some (.ref 8), some (.int x1), some (.int x2), some (.int x3), none, none]) (st' := [.int x2, .ref 40]) rfl ?_
        refine Ev.call (y := 99) (args := [.ref 40, .int x2]) (rest := []) (r := some (.int (F99 M x2))) rfl (s99 H.1) ?_
        replace H := H.2
        show Ev 5 198 41 [some (.ref 8), some (.int x1), some (.int x2), some (.int x3), none, none] [.int (F99 M x2)] _ _
        refine Ev.steps 4 (pc' := 48) (L' := [some (.ref 8), some (.int x1), some (.int x2), some (.int x3), some (.int (F99 M x2)), none]) (st' := [.int x1, .ref 44]) rfl ?_
        obtain ⟨r1, hr1, H⟩ := H
        refine Ev.call (y := 32) (args := [.ref 44, .int x1]) (rest := []) (r := (some (.int r1))) rfl hr1 ?_
        show Ev 5 198 51 [some (.ref 8), some (.int x1), some (.int x2), some (.int x3), some (.int (F99 M x2)), none] [.int r1] _ _
        refine Ev.steps 4 (pc' := if (F99 M x2) ≤ r1 then 62 else 60) (L' := [some (.ref 8), some (.int x1), some (.int x2), some (.int x3), some (.int (F99 M x2)), some (.int r1)]) (st' := []) rfl ?_
        refine Ev_ite (fun hc => ?_) (fun hc => ?_)
        · replace H := H.1 hc
          refine Ev.steps 2 (pc' := if x3 = 0 then 66 else 71) (L' := [some (.ref 8), some (.int x1), some (.int x2), some (.int x3), some (.int (F99 M x2)), some (.int r1)]) (st' := []) rfl ?_
          refine Ev_ite (fun hc => ?_) (fun hc => ?_)
          · replace H := H.1 hc
            refine Ev.steps 2 (pc' := 73) (L' := [some (.ref 8), some (.int x1), some (.int x2), some (.int x3), some (.int (F99 M x2)), some (.int r1)]) (st' := [.int (F99 M x2)]) rfl ?_
            subst H
            exact Ev.ret rfl
          · replace H := H.2 hc
            refine Ev.steps 1 (pc' := 73) (L' := [some (.ref 8), some (.int x1), some (.int x2), some (.int x3), some (.int (F99 M x2)), some (.int r1)]) (st' := [.int r1]) rfl ?_
            subst H
            exact Ev.ret rfl
        · replace H := H.2 hc
          refine Ev.steps 1 (pc' := 61) (L' := [some (.ref 8), some (.int x1), some (.int x2), some (.int x3), some (.int (F99 M x2)), some (.int r1)]) (st' := [.int (-1)]) rfl ?_
          subst H
          exact Ev.ret rfl
      · replace H := H.2 hc
        refine Ev.steps 3 (pc' := if x3 = 1 then 33 else 30) (L' := [some (.ref 8), some (.int x1), some (.int x2), some (.int x3), none, none]) (st' := []) rfl ?_
        refine Ev_ite (fun hc => ?_) (fun hc => ?_)
        · replace H := H.1 hc
          refine Ev.steps 3 (pc' := 38) (L' := [some (.ref 8), some (.int x1), some (.int x2), some (.int x3), none, none]) (st' := [.int x2, .ref 40]) rfl ?_
          refine Ev.call (y := 99) (args := [.ref 40, .int x2]) (rest := []) (r := some (.int (F99 M x2))) rfl (s99 H.1) ?_
          replace H := H.2
          show Ev 5 198 41 [some (.ref 8), some (.int x1), some (.int x2), some (.int x3), none, none] [.int (F99 M x2)] _ _
          refine Ev.steps 4 (pc' := 48) (L' := [some (.ref 8), some (.int x1), some (.int x2), some (.int x3), some (.int (F99 M x2)), none]) (st' := [.int x1, .ref 44]) rfl ?_
          obtain ⟨r2, hr2, H⟩ := H
          refine Ev.call (y := 32) (args := [.ref 44, .int x1]) (rest := []) (r := (some (.int r2))) rfl hr2 ?_
          show Ev 5 198 51 [some (.ref 8), some (.int x1), some (.int x2), some (.int x3), some (.int (F99 M x2)), none] [.int r2] _ _
          refine Ev.steps 4 (pc' := if (F99 M x2) ≤ r2 then 62 else 60) (L' := [some (.ref 8), some (.int x1), some (.int x2), some (.int x3), some (.int (F99 M x2)), some (.int r2)]) (st' := []) rfl ?_
          refine Ev_ite (fun hc => ?_) (fun hc => ?_)
          · replace H := H.1 hc
            refine Ev.steps 2 (pc' := if x3 = 0 then 66 else 71) (L' := [some (.ref 8), some (.int x1), some (.int x2), some (.int x3), some (.int (F99 M x2)), some (.int r2)]) (st' := []) rfl ?_
            refine Ev_ite (fun hc => ?_) (fun hc => ?_)
            · replace H := H.1 hc
              refine Ev.steps 2 (pc' := 73) (L' := [some (.ref 8), some (.int x1), some (.int x2), some (.int x3), some (.int (F99 M x2)), some (.int r2)]) (st' := [.int (F99 M x2)]) rfl ?_
              subst H
              exact Ev.ret rfl
            · replace H := H.2 hc
              refine Ev.steps 1 (pc' := 73) (L' := [some (.ref 8), some (.int x1), some (.int x2), some (.int x3), some (.int (F99 M x2)), some (.int r2)]) (st' := [.int r2]) rfl ?_
              subst H
              exact Ev.ret rfl
          · replace H := H.2 hc
            refine Ev.steps 1 (pc' := 61) (L' := [some (.ref 8), some (.int x1), some (.int x2), some (.int x3), some (.int (F99 M x2)), some (.int r2)]) (st' := [.int (-1)]) rfl ?_
            subst H
            exact Ev.ret rfl
        · replace H := H.2 hc
          refine Ev.steps 1 (pc' := 32) (L' := [some (.ref 8), some (.int x1), some (.int x2), some (.int x3), none, none]) (st' := [.int (-102)]) rfl ?_
          subst H
          exact Ev.ret rfl

-- 240 GlassWiresModel isFree (II)Z
set_option maxRecDepth 20000 in
theorem w240_0 {E : gw_N} {M : Mem} {res : Option Value × gw_H} {x1 : Int32} {x2 : Int32} (H : ((x1 ≤ 0 → res = (some (.int 0), hs E M)) ∧ (¬ x1 ≤ 0 → ((((M 59) 0) ≤ x1 → res = (some (.int 0), hs E M)) ∧ (¬ ((M 59) 0) ≤ x1 → ((x2 ≤ 0 → res = (some (.int 0), hs E M)) ∧ (¬ x2 ≤ 0 → ((((M 59) 1) ≤ x2 → res = (some (.int 0), hs E M)) ∧ (¬ ((M 59) 1) ≤ x2 → (P239 M x1 x2 ∧ (((F239 M x1 x2) = 1 → res = (some (.int 1), hs E M)) ∧ (¬ (F239 M x1 x2) = 1 → res = (some (.int 0), hs E M))))))))))))) : Ev 5 240 0 [some (.ref 59), some (.int x1), some (.int x2)] [] (hs E M) res := by
  refine Ev.steps 2 (pc' := if x1 ≤ 0 then 38 else 4) (L' := [some (.ref 59), some (.int x1), some (.int x2)]) (st' := []) rfl ?_
  refine Ev_ite (fun hc => ?_) (fun hc => ?_)
  · replace H := H.1 hc
    refine Ev.steps 1 (pc' := 39) (L' := [some (.ref 59), some (.int x1), some (.int x2)]) (st' := [.int 0]) rfl ?_
    subst H
    exact Ev.ret rfl
  · replace H := H.2 hc
    refine Ev.steps 4 (pc' := if ((M 59) 0) ≤ x1 then 38 else 12) (L' := [some (.ref 59), some (.int x1), some (.int x2)]) (st' := []) rfl ?_
    refine Ev_ite (fun hc => ?_) (fun hc => ?_)
    · replace H := H.1 hc
      refine Ev.steps 1 (pc' := 39) (L' := [some (.ref 59), some (.int x1), some (.int x2)]) (st' := [.int 0]) rfl ?_
      subst H
      exact Ev.ret rfl
    · replace H := H.2 hc
      refine Ev.steps 2 (pc' := if x2 ≤ 0 then 38 else 16) (L' := [some (.ref 59), some (.int x1), some (.int x2)]) (st' := []) rfl ?_
      refine Ev_ite (fun hc => ?_) (fun hc => ?_)
      · replace H := H.1 hc
        refine Ev.steps 1 (pc' := 39) (L' := [some (.ref 59), some (.int x1), some (.int x2)]) (st' := [.int 0]) rfl ?_
        subst H
        exact Ev.ret rfl
      · replace H := H.2 hc
        refine Ev.steps 4 (pc' := if ((M 59) 1) ≤ x2 then 38 else 24) (L' := [some (.ref 59), some (.int x1), some (.int x2)]) (st' := []) rfl ?_
        refine Ev_ite (fun hc => ?_) (fun hc => ?_)
        · replace H := H.1 hc
          refine Ev.steps 1 (pc' := 39) (L' := [some (.ref 59), some (.int x1), some (.int x2)]) (st' := [.int 0]) rfl ?_
          subst H
          exact Ev.ret rfl
        · replace H := H.2 hc
          refine Ev.steps 3 (pc' := 27) (L' := [some (.ref 59), some (.int x1), some (.int x2)]) (st' := [.int x2, .int x1, .ref 59]) rfl ?_
          refine Ev.call (y := 239) (args := [.ref 59, .int x1, .int x2]) (rest := []) (r := some (.int (F239 M x1 x2))) rfl (s239 H.1) ?_
          replace H := H.2
          show Ev 5 240 30 [some (.ref 59), some (.int x1), some (.int x2)] [.int (F239 M x1 x2)] _ _
          refine Ev.steps 2 (pc' := if (F239 M x1 x2) = 1 then 34 else 38) (L' := [some (.ref 59), some (.int x1), some (.int x2)]) (st' := []) rfl ?_
          refine Ev_ite (fun hc => ?_) (fun hc => ?_)
          · replace H := H.1 hc
            refine Ev.steps 2 (pc' := 39) (L' := [some (.ref 59), some (.int x1), some (.int x2)]) (st' := [.int 1]) rfl ?_
            subst H
            exact Ev.ret rfl
          · replace H := H.2 hc
            refine Ev.steps 1 (pc' := 39) (L' := [some (.ref 59), some (.int x1), some (.int x2)]) (st' := [.int 0]) rfl ?_
            subst H
            exact Ev.ret rfl

def F240 (M : Mem) (x1 : Int32) (x2 : Int32) : Int32 := (if x1 ≤ 0 then 0 else (if ((M 59) 0) ≤ x1 then 0 else (if x2 ≤ 0 then 0 else (if ((M 59) 1) ≤ x2 then 0 else (if (F239 M x1 x2) = 1 then 1 else 0)))))
def P240 (M : Mem) (x1 : Int32) (x2 : Int32) : Prop := ((x1 ≤ 0 → True) ∧ (¬ x1 ≤ 0 → ((((M 59) 0) ≤ x1 → True) ∧ (¬ ((M 59) 0) ≤ x1 → ((x2 ≤ 0 → True) ∧ (¬ x2 ≤ 0 → ((((M 59) 1) ≤ x2 → True) ∧ (¬ ((M 59) 1) ≤ x2 → (P239 M x1 x2)))))))))
theorem bb240 {M : Mem} {x1 : Int32} {x2 : Int32} : F240 M x1 x2 &&& 1 = F240 M x1 x2 := by
  unfold F240
  (repeat' split) <;> first | rfl | decide
theorem s240 {E : gw_N} {M : Mem} {x1 : Int32} {x2 : Int32} (H : P240 M x1 x2) : Rn 240 [.ref 59, .int x1, .int x2] (hs E M) (some (.int (F240 M x1 x2))) (hs E M) :=
  w240_0 (⟨fun h0 => gw_reteq (if_pos h0), fun h0 => ⟨fun h1 => gw_reteq ((if_neg h0).trans (if_pos h1)), fun h1 => ⟨fun h2 => gw_reteq (((if_neg h0).trans (if_neg h1)).trans (if_pos h2)), fun h2 => ⟨fun h3 => gw_reteq ((((if_neg h0).trans (if_neg h1)).trans (if_neg h2)).trans (if_pos h3)), fun h3 => ⟨((((H.2 h0).2 h1).2 h2).2 h3), ⟨fun h4 => gw_reteq (((((if_neg h0).trans (if_neg h1)).trans (if_neg h2)).trans (if_neg h3)).trans (if_pos h4)), fun h4 => gw_reteq (((((if_neg h0).trans (if_neg h1)).trans (if_neg h2)).trans (if_neg h3)).trans (if_neg h4))⟩⟩⟩⟩⟩⟩)
-- 242 GlassWiresModel pieces ()I
set_option maxRecDepth 20000 in
theorem w242_0 {E : gw_N} {M : Mem} {res : Option Value × gw_H}  (H : Ev 5 242 2 [some (.ref 59), some (.int 0), none, none, none, none, none] [] (hs E M) res) : Ev 5 242 0 [some (.ref 59), none, none, none, none, none, none] [] (hs E M) res := by
  refine Ev.steps 2 (pc' := 2) (L' := [some (.ref 59), some (.int 0), none, none, none, none, none]) (st' := []) rfl ?_
  exact Ev.weak [some (.ref 59), some (.int 0), none, none, none, none, none] (gw_leb_le ⟨rfl, rfl, trivial⟩) H

set_option maxRecDepth 20000 in
theorem w242_2 {E : gw_N} {M : Mem} {res : Option Value × gw_H} {x1 : Int32} (H : ((81 ≤ x1 → Ev 5 242 23 [some (.ref 59), some (.int 1), none, none, none, none, none] [] (hs E M) res) ∧ (¬ 81 ≤ x1 → (inb x1 81 ∧ Ev 5 242 2 [some (.ref 59), some (.int (x1 + 1)), none, none, none, none, none] [] (hs E (up M 68 (upd (M 68) (x1 : Int32).toNatClampNeg x1))) res)))) : Ev 5 242 2 [some (.ref 59), some (.int x1), none, none, none, none, none] [] (hs E M) res := by
  refine Ev.steps 3 (pc' := if 81 ≤ x1 then 21 else 8) (L' := [some (.ref 59), some (.int x1), none, none, none, none, none]) (st' := []) rfl ?_
  refine Ev_ite (fun hc => ?_) (fun hc => ?_)
  · replace H := H.1 hc
    refine Ev.steps 2 (pc' := 23) (L' := [some (.ref 59), some (.int 1), none, none, none, none, none]) (st' := []) rfl ?_
    exact Ev.weak [some (.ref 59), some (.int 1), none, none, none, none, none] (gw_leb_le ⟨rfl, rfl, trivial⟩) H
  · replace H := H.2 hc
    refine Ev.steps 4 (pc' := 14) (L' := [some (.ref 59), some (.int x1), none, none, none, none, none]) (st' := [.int x1, .int x1, .ref 68]) rfl ?_
    refine Ev.wr (a := 68) (g := (upd (M 68) (x1 : Int32).toNatClampNeg x1)) (i := x1) (n := 81) (pc' := 15) (L' := [some (.ref 59), some (.int x1), none, none, none, none, none]) (st' := []) (by decide) H.1 rfl ?_
    replace H := H.2
    refine Ev.steps 2 (pc' := 2) (L' := [some (.ref 59), some (.int (x1 + 1)), none, none, none, none, none]) (st' := []) rfl ?_
    exact Ev.weak [some (.ref 59), some (.int (x1 + 1)), none, none, none, none, none] (gw_leb_le ⟨rfl, rfl, trivial⟩) H

set_option maxRecDepth 20000 in
theorem w242_23 {E : gw_N} {M : Mem} {res : Option Value × gw_H} {x1 : Int32} (H : ((x1 = 0 → Ev 5 242 152 [some (.ref 59), none, some (.int 0), some (.int 0), none, none, none] [] (hs E M) res) ∧ (¬ x1 = 0 → Ev 5 242 31 [some (.ref 59), some (.int 0), some (.int 0), none, none, none, none] [] (hs E M) res))) : Ev 5 242 23 [some (.ref 59), some (.int x1), none, none, none, none, none] [] (hs E M) res := by
  refine Ev.steps 2 (pc' := if x1 = 0 then 148 else 27) (L' := [some (.ref 59), some (.int x1), none, none, none, none, none]) (st' := []) rfl ?_
  refine Ev_ite (fun hc => ?_) (fun hc => ?_)
  · replace H := H.1 hc
    refine Ev.steps 4 (pc' := 152) (L' := [some (.ref 59), some (.int x1), some (.int 0), some (.int 0), none, none, none]) (st' := []) rfl ?_
    exact Ev.weak [some (.ref 59), none, some (.int 0), some (.int 0), none, none, none] (gw_leb_le ⟨rfl, rfl, rfl, trivial⟩) H
  · replace H := H.2 hc
    refine Ev.steps 4 (pc' := 31) (L' := [some (.ref 59), some (.int 0), some (.int 0), none, none, none, none]) (st' := []) rfl ?_
    exact Ev.weak [some (.ref 59), some (.int 0), some (.int 0), none, none, none, none] (gw_leb_le ⟨rfl, rfl, rfl, trivial⟩) H

set_option maxRecDepth 20000 in
theorem w242_152 {E : gw_N} {M : Mem} {res : Option Value × gw_H} {x2 : Int32} {x3 : Int32} (H : ((81 ≤ x3 → res = (some (.int x2), hs E M)) ∧ (¬ 81 ≤ x3 → Ev 5 242 167 [some (.ref 59), none, some (.int x2), some (.int x3), some (.int 0), some (.int 0), some (.int 0)] [] (hs E M) res))) : Ev 5 242 152 [some (.ref 59), none, some (.int x2), some (.int x3), none, none, none] [] (hs E M) res := by
  refine Ev.steps 3 (pc' := if 81 ≤ x3 then 287 else 158) (L' := [some (.ref 59), none, some (.int x2), some (.int x3), none, none, none]) (st' := []) rfl ?_
  refine Ev_ite (fun hc => ?_) (fun hc => ?_)
  · replace H := H.1 hc
    refine Ev.steps 1 (pc' := 288) (L' := [some (.ref 59), none, some (.int x2), some (.int x3), none, none, none]) (st' := [.int x2]) rfl ?_
    subst H
    exact Ev.ret rfl
  · replace H := H.2 hc
    refine Ev.steps 6 (pc' := 167) (L' := [some (.ref 59), none, some (.int x2), some (.int x3), some (.int 0), some (.int 0), some (.int 0)]) (st' := []) rfl ?_
    exact Ev.weak [some (.ref 59), none, some (.int x2), some (.int x3), some (.int 0), some (.int 0), some (.int 0)] (gw_leb_le ⟨rfl, rfl, rfl, rfl, rfl, rfl, trivial⟩) H

set_option maxRecDepth 20000 in
theorem w242_31 {E : gw_N} {M : Mem} {res : Option Value × gw_H} {x1 : Int32} {x2 : Int32} (H : ((162 ≤ x2 → Ev 5 242 23 [some (.ref 59), some (.int x1), none, none, none, none, none] [] (hs E M) res) ∧ (¬ 162 ≤ x2 → ((81 ≤ x2 → (inb x2 162 ∧ ((((M 67) (x2 : Int32).toNatClampNeg) ≤ 0 → Ev 5 242 31 [some (.ref 59), some (.int x1), some (.int (x2 + 1)), none, none, none, none] [] (hs E M) res) ∧ (¬ ((M 67) (x2 : Int32).toNatClampNeg) ≤ 0 → (inb (x2 - x2 / 81 * 81) 81 ∧ (inb ((x2 - x2 / 81 * 81) + 9) 81 ∧ ((((M 68) ((x2 - x2 / 81 * 81) : Int32).toNatClampNeg) = ((M 68) (((x2 - x2 / 81 * 81) + 9) : Int32).toNatClampNeg) → Ev 5 242 31 [some (.ref 59), some (.int x1), some (.int (x2 + 1)), none, none, none, none] [] (hs E M) res) ∧ (¬ ((M 68) ((x2 - x2 / 81 * 81) : Int32).toNatClampNeg) = ((M 68) (((x2 - x2 / 81 * 81) + 9) : Int32).toNatClampNeg) → (inb (x2 - x2 / 81 * 81) 81 ∧ (inb ((x2 - x2 / 81 * 81) + 9) 81 ∧ ((((M 68) (((x2 - x2 / 81 * 81) + 9) : Int32).toNatClampNeg) ≤ ((M 68) ((x2 - x2 / 81 * 81) : Int32).toNatClampNeg) → (inb ((x2 - x2 / 81 * 81) + 9) 81 ∧ (inb (x2 - x2 / 81 * 81) 81 ∧ (inb ((x2 - x2 / 81 * 81) + 9) 81 ∧ Ev 5 242 31 [some (.ref 59), some (.int 1), some (.int (x2 + 1)), none, none, none, none] [] (hs E (up M 68 (upd (upd (M 68) ((x2 - x2 / 81 * 81) : Int32).toNatClampNeg ((M 68) (((x2 - x2 / 81 * 81) + 9) : Int32).toNatClampNeg)) (((x2 - x2 / 81 * 81) + 9) : Int32).toNatClampNeg ((M 68) (((x2 - x2 / 81 * 81) + 9) : Int32).toNatClampNeg)))) res)))) ∧ (¬ ((M 68) (((x2 - x2 / 81 * 81) + 9) : Int32).toNatClampNeg) ≤ ((M 68) ((x2 - x2 / 81 * 81) : Int32).toNatClampNeg) → (inb (x2 - x2 / 81 * 81) 81 ∧ (inb (x2 - x2 / 81 * 81) 81 ∧ (inb ((x2 - x2 / 81 * 81) + 9) 81 ∧ Ev 5 242 31 [some (.ref 59), some (.int 1), some (.int (x2 + 1)), none, none, none, none] [] (hs E (up M 68 (upd (upd (M 68) ((x2 - x2 / 81 * 81) : Int32).toNatClampNeg ((M 68) ((x2 - x2 / 81 * 81) : Int32).toNatClampNeg)) (((x2 - x2 / 81 * 81) + 9) : Int32).toNatClampNeg ((M 68) ((x2 - x2 / 81 * 81) : Int32).toNatClampNeg)))) res))))))))))))))) ∧ (¬ 81 ≤ x2 → (inb x2 162 ∧ ((((M 67) (x2 : Int32).toNatClampNeg) ≤ 0 → Ev 5 242 31 [some (.ref 59), some (.int x1), some (.int (x2 + 1)), none, none, none, none] [] (hs E M) res) ∧ (¬ ((M 67) (x2 : Int32).toNatClampNeg) ≤ 0 → (inb (x2 - x2 / 81 * 81) 81 ∧ (inb ((x2 - x2 / 81 * 81) + 1) 81 ∧ ((((M 68) ((x2 - x2 / 81 * 81) : Int32).toNatClampNeg) = ((M 68) (((x2 - x2 / 81 * 81) + 1) : Int32).toNatClampNeg) → Ev 5 242 31 [some (.ref 59), some (.int x1), some (.int (x2 + 1)), none, none, none, none] [] (hs E M) res) ∧ (¬ ((M 68) ((x2 - x2 / 81 * 81) : Int32).toNatClampNeg) = ((M 68) (((x2 - x2 / 81 * 81) + 1) : Int32).toNatClampNeg) → (inb (x2 - x2 / 81 * 81) 81 ∧ (inb ((x2 - x2 / 81 * 81) + 1) 81 ∧ ((((M 68) (((x2 - x2 / 81 * 81) + 1) : Int32).toNatClampNeg) ≤ ((M 68) ((x2 - x2 / 81 * 81) : Int32).toNatClampNeg) → (inb ((x2 - x2 / 81 * 81) + 1) 81 ∧ (inb (x2 - x2 / 81 * 81) 81 ∧ (inb ((x2 - x2 / 81 * 81) + 1) 81 ∧ Ev 5 242 31 [some (.ref 59), some (.int 1), some (.int (x2 + 1)), none, none, none, none] [] (hs E (up M 68 (upd (upd (M 68) ((x2 - x2 / 81 * 81) : Int32).toNatClampNeg ((M 68) (((x2 - x2 / 81 * 81) + 1) : Int32).toNatClampNeg)) (((x2 - x2 / 81 * 81) + 1) : Int32).toNatClampNeg ((M 68) (((x2 - x2 / 81 * 81) + 1) : Int32).toNatClampNeg)))) res)))) ∧ (¬ ((M 68) (((x2 - x2 / 81 * 81) + 1) : Int32).toNatClampNeg) ≤ ((M 68) ((x2 - x2 / 81 * 81) : Int32).toNatClampNeg) → (inb (x2 - x2 / 81 * 81) 81 ∧ (inb (x2 - x2 / 81 * 81) 81 ∧ (inb ((x2 - x2 / 81 * 81) + 1) 81 ∧ Ev 5 242 31 [some (.ref 59), some (.int 1), some (.int (x2 + 1)), none, none, none, none] [] (hs E (up M 68 (upd (upd (M 68) ((x2 - x2 / 81 * 81) : Int32).toNatClampNeg ((M 68) ((x2 - x2 / 81 * 81) : Int32).toNatClampNeg)) (((x2 - x2 / 81 * 81) + 1) : Int32).toNatClampNeg ((M 68) ((x2 - x2 / 81 * 81) : Int32).toNatClampNeg)))) res))))))))))))))))))) : Ev 5 242 31 [some (.ref 59), some (.int x1), some (.int x2), none, none, none, none] [] (hs E M) res := by
  refine Ev.steps 3 (pc' := if 162 ≤ x2 then 145 else 38) (L' := [some (.ref 59), some (.int x1), some (.int x2), none, none, none, none]) (st' := []) rfl ?_
  refine Ev_ite (fun hc => ?_) (fun hc => ?_)
  · replace H := H.1 hc
    refine Ev.steps 1 (pc' := 23) (L' := [some (.ref 59), some (.int x1), some (.int x2), none, none, none, none]) (st' := []) rfl ?_
    exact Ev.weak [some (.ref 59), some (.int x1), none, none, none, none, none] (gw_leb_le ⟨rfl, rfl, trivial⟩) H
  · replace H := H.2 hc
    refine Ev.steps 2 (pc' := 41) (L' := [some (.ref 59), some (.int x1), some (.int x2), none, none, none, none]) (st' := [.int 81, .int x2]) rfl ?_
    refine Ev.dv (y := 81) (pc' := 42) (L' := [some (.ref 59), some (.int x1), some (.int x2), none, none, none, none]) (st' := [.int (x2 - x2 / 81 * 81)]) (by decide) rfl ?_
    refine Ev.steps 4 (pc' := if 81 ≤ x2 then 55 else 49) (L' := [some (.ref 59), some (.int x1), some (.int x2), some (.int (x2 - x2 / 81 * 81)), none, none, none]) (st' := []) rfl ?_
    refine Ev_ite (fun hc => ?_) (fun hc => ?_)
    · replace H := H.1 hc
      refine Ev.steps 7 (pc' := 66) (L' := [some (.ref 59), some (.int x1), some (.int x2), some (.int (x2 - x2 / 81 * 81)), some (.int ((x2 - x2 / 81 * 81) + 9)), none, none]) (st' := [.int x2, .ref 67]) rfl ?_
      refine Ev.rd (i := x2) (n := 162) (pc' := 67) (L' := [some (.ref 59), some (.int x1), some (.int x2), some (.int (x2 - x2 / 81 * 81)), some (.int ((x2 - x2 / 81 * 81) + 9)), none, none]) (st' := [.int ((M 67) (x2 : Int32).toNatClampNeg)]) H.1 rfl ?_
      replace H := H.2
      refine Ev.steps 1 (pc' := if ((M 67) (x2 : Int32).toNatClampNeg) ≤ 0 then 139 else 70) (L' := [some (.ref 59), some (.int x1), some (.int x2), some (.int (x2 - x2 / 81 * 81)), some (.int ((x2 - x2 / 81 * 81) + 9)), none, none]) (st' := []) rfl ?_
      refine Ev_ite (fun hc => ?_) (fun hc => ?_)
      · replace H := H.1 hc
        refine Ev.steps 2 (pc' := 31) (L' := [some (.ref 59), some (.int x1), some (.int (x2 + 1)), some (.int (x2 - x2 / 81 * 81)), some (.int ((x2 - x2 / 81 * 81) + 9)), none, none]) (st' := []) rfl ?_
        exact Ev.weak [some (.ref 59), some (.int x1), some (.int (x2 + 1)), none, none, none, none] (gw_leb_le ⟨rfl, rfl, rfl, trivial⟩) H
      · replace H := H.2 hc
        refine Ev.steps 3 (pc' := 75) (L' := [some (.ref 59), some (.int x1), some (.int x2), some (.int (x2 - x2 / 81 * 81)), some (.int ((x2 - x2 / 81 * 81) + 9)), none, none]) (st' := [.int (x2 - x2 / 81 * 81), .ref 68]) rfl ?_
        refine Ev.rd (i := (x2 - x2 / 81 * 81)) (n := 81) (pc' := 76) (L' := [some (.ref 59), some (.int x1), some (.int x2), some (.int (x2 - x2 / 81 * 81)), some (.int ((x2 - x2 / 81 * 81) + 9)), none, none]) (st' := [.int ((M 68) ((x2 - x2 / 81 * 81) : Int32).toNatClampNeg)]) H.1 rfl ?_
        replace H := H.2
        refine Ev.steps 3 (pc' := 82) (L' := [some (.ref 59), some (.int x1), some (.int x2), some (.int (x2 - x2 / 81 * 81)), some (.int ((x2 - x2 / 81 * 81) + 9)), none, none]) (st' := [.int ((x2 - x2 / 81 * 81) + 9), .ref 68, .int ((M 68) ((x2 - x2 / 81 * 81) : Int32).toNatClampNeg)]) rfl ?_
        refine Ev.rd (i := ((x2 - x2 / 81 * 81) + 9)) (n := 81) (pc' := 83) (L' := [some (.ref 59), some (.int x1), some (.int x2), some (.int (x2 - x2 / 81 * 81)), some (.int ((x2 - x2 / 81 * 81) + 9)), none, none]) (st' := [.int ((M 68) (((x2 - x2 / 81 * 81) + 9) : Int32).toNatClampNeg), .int ((M 68) ((x2 - x2 / 81 * 81) : Int32).toNatClampNeg)]) H.1 rfl ?_
        replace H := H.2
        refine Ev.steps 1 (pc' := if ((M 68) ((x2 - x2 / 81 * 81) : Int32).toNatClampNeg) = ((M 68) (((x2 - x2 / 81 * 81) + 9) : Int32).toNatClampNeg) then 139 else 86) (L' := [some (.ref 59), some (.int x1), some (.int x2), some (.int (x2 - x2 / 81 * 81)), some (.int ((x2 - x2 / 81 * 81) + 9)), none, none]) (st' := []) rfl ?_
        refine Ev_ite (fun hc => ?_) (fun hc => ?_)
        · replace H := H.1 hc
          refine Ev.steps 2 (pc' := 31) (L' := [some (.ref 59), some (.int x1), some (.int (x2 + 1)), some (.int (x2 - x2 / 81 * 81)), some (.int ((x2 - x2 / 81 * 81) + 9)), none, none]) (st' := []) rfl ?_
          exact Ev.weak [some (.ref 59), some (.int x1), some (.int (x2 + 1)), none, none, none, none] (gw_leb_le ⟨rfl, rfl, rfl, trivial⟩) H
        · replace H := H.2 hc
          refine Ev.steps 3 (pc' := 91) (L' := [some (.ref 59), some (.int x1), some (.int x2), some (.int (x2 - x2 / 81 * 81)), some (.int ((x2 - x2 / 81 * 81) + 9)), none, none]) (st' := [.int (x2 - x2 / 81 * 81), .ref 68]) rfl ?_
          refine Ev.rd (i := (x2 - x2 / 81 * 81)) (n := 81) (pc' := 92) (L' := [some (.ref 59), some (.int x1), some (.int x2), some (.int (x2 - x2 / 81 * 81)), some (.int ((x2 - x2 / 81 * 81) + 9)), none, none]) (st' := [.int ((M 68) ((x2 - x2 / 81 * 81) : Int32).toNatClampNeg)]) H.1 rfl ?_
          replace H := H.2
          refine Ev.steps 3 (pc' := 98) (L' := [some (.ref 59), some (.int x1), some (.int x2), some (.int (x2 - x2 / 81 * 81)), some (.int ((x2 - x2 / 81 * 81) + 9)), none, none]) (st' := [.int ((x2 - x2 / 81 * 81) + 9), .ref 68, .int ((M 68) ((x2 - x2 / 81 * 81) : Int32).toNatClampNeg)]) rfl ?_
          refine Ev.rd (i := ((x2 - x2 / 81 * 81) + 9)) (n := 81) (pc' := 99) (L' := [some (.ref 59), some (.int x1), some (.int x2), some (.int (x2 - x2 / 81 * 81)), some (.int ((x2 - x2 / 81 * 81) + 9)), none, none]) (st' := [.int ((M 68) (((x2 - x2 / 81 * 81) + 9) : Int32).toNatClampNeg), .int ((M 68) ((x2 - x2 / 81 * 81) : Int32).toNatClampNeg)]) H.1 rfl ?_
          replace H := H.2
          refine Ev.steps 1 (pc' := if ((M 68) (((x2 - x2 / 81 * 81) + 9) : Int32).toNatClampNeg) ≤ ((M 68) ((x2 - x2 / 81 * 81) : Int32).toNatClampNeg) then 111 else 102) (L' := [some (.ref 59), some (.int x1), some (.int x2), some (.int (x2 - x2 / 81 * 81)), some (.int ((x2 - x2 / 81 * 81) + 9)), none, none]) (st' := []) rfl ?_
          refine Ev_ite (fun hc => ?_) (fun hc => ?_)
          · replace H := H.1 hc
            refine Ev.steps 3 (pc' := 117) (L' := [some (.ref 59), some (.int x1), some (.int x2), some (.int (x2 - x2 / 81 * 81)), some (.int ((x2 - x2 / 81 * 81) + 9)), none, none]) (st' := [.int ((x2 - x2 / 81 * 81) + 9), .ref 68]) rfl ?_
            refine Ev.rd (i := ((x2 - x2 / 81 * 81) + 9)) (n := 81) (pc' := 118) (L' := [some (.ref 59), some (.int x1), some (.int x2), some (.int (x2 - x2 / 81 * 81)), some (.int ((x2 - x2 / 81 * 81) + 9)), none, none]) (st' := [.int ((M 68) (((x2 - x2 / 81 * 81) + 9) : Int32).toNatClampNeg)]) H.1 rfl ?_
            replace H := H.2
            refine Ev.steps 5 (pc' := 127) (L' := [some (.ref 59), some (.int x1), some (.int x2), some (.int (x2 - x2 / 81 * 81)), some (.int ((x2 - x2 / 81 * 81) + 9)), some (.int ((M 68) (((x2 - x2 / 81 * 81) + 9) : Int32).toNatClampNeg)), none]) (st' := [.int ((M 68) (((x2 - x2 / 81 * 81) + 9) : Int32).toNatClampNeg), .int (x2 - x2 / 81 * 81), .ref 68]) rfl ?_
            refine Ev.wr (a := 68) (g := (upd (M 68) ((x2 - x2 / 81 * 81) : Int32).toNatClampNeg ((M 68) (((x2 - x2 / 81 * 81) + 9) : Int32).toNatClampNeg))) (i := (x2 - x2 / 81 * 81)) (n := 81) (pc' := 128) (L' := [some (.ref 59), some (.int x1), some (.int x2), some (.int (x2 - x2 / 81 * 81)), some (.int ((x2 - x2 / 81 * 81) + 9)), some (.int ((M 68) (((x2 - x2 / 81 * 81) + 9) : Int32).toNatClampNeg)), none]) (st' := []) (by decide) H.1 rfl ?_
            replace H := H.2
            refine Ev.steps 4 (pc' := 136) (L' := [some (.ref 59), some (.int x1), some (.int x2), some (.int (x2 - x2 / 81 * 81)), some (.int ((x2 - x2 / 81 * 81) + 9)), some (.int ((M 68) (((x2 - x2 / 81 * 81) + 9) : Int32).toNatClampNeg)), none]) (st' := [.int ((M 68) (((x2 - x2 / 81 * 81) + 9) : Int32).toNatClampNeg), .int ((x2 - x2 / 81 * 81) + 9), .ref 68]) rfl ?_
            refine Ev.wr (a := 68) (g := (upd (upd (M 68) ((x2 - x2 / 81 * 81) : Int32).toNatClampNeg ((M 68) (((x2 - x2 / 81 * 81) + 9) : Int32).toNatClampNeg)) (((x2 - x2 / 81 * 81) + 9) : Int32).toNatClampNeg ((M 68) (((x2 - x2 / 81 * 81) + 9) : Int32).toNatClampNeg))) (i := ((x2 - x2 / 81 * 81) + 9)) (n := 81) (pc' := 137) (L' := [some (.ref 59), some (.int x1), some (.int x2), some (.int (x2 - x2 / 81 * 81)), some (.int ((x2 - x2 / 81 * 81) + 9)), some (.int ((M 68) (((x2 - x2 / 81 * 81) + 9) : Int32).toNatClampNeg)), none]) (st' := []) (by decide) H.1 rfl ?_
            replace H := H.2
            refine Ev.mto (M' := (up M 68 (upd (upd (M 68) ((x2 - x2 / 81 * 81) : Int32).toNatClampNeg ((M 68) (((x2 - x2 / 81 * 81) + 9) : Int32).toNatClampNeg)) (((x2 - x2 / 81 * 81) + 9) : Int32).toNatClampNeg ((M 68) (((x2 - x2 / 81 * 81) + 9) : Int32).toNatClampNeg)))) (by funext q9; unfold up; by_cases e9 : q9 = 68 <;> simp [e9]) ?_
            refine Ev.steps 4 (pc' := 31) (L' := [some (.ref 59), some (.int 1), some (.int (x2 + 1)), some (.int (x2 - x2 / 81 * 81)), some (.int ((x2 - x2 / 81 * 81) + 9)), some (.int ((M 68) (((x2 - x2 / 81 * 81) + 9) : Int32).toNatClampNeg)), none]) (st' := []) rfl ?_
            exact Ev.weak [some (.ref 59), some (.int 1), some (.int (x2 + 1)), none, none, none, none] (gw_leb_le ⟨rfl, rfl, rfl, trivial⟩) H
          · replace H := H.2 hc
            refine Ev.steps 3 (pc' := 107) (L' := [some (.ref 59), some (.int x1), some (.int x2), some (.int (x2 - x2 / 81 * 81)), some (.int ((x2 - x2 / 81 * 81) + 9)), none, none]) (st' := [.int (x2 - x2 / 81 * 81), .ref 68]) rfl ?_
            refine Ev.rd (i := (x2 - x2 / 81 * 81)) (n := 81) (pc' := 108) (L' := [some (.ref 59), some (.int x1), some (.int x2), some (.int (x2 - x2 / 81 * 81)), some (.int ((x2 - x2 / 81 * 81) + 9)), none, none]) (st' := [.int ((M 68) ((x2 - x2 / 81 * 81) : Int32).toNatClampNeg)]) H.1 rfl ?_
            replace H := H.2
            refine Ev.steps 6 (pc' := 127) (L' := [some (.ref 59), some (.int x1), some (.int x2), some (.int (x2 - x2 / 81 * 81)), some (.int ((x2 - x2 / 81 * 81) + 9)), some (.int ((M 68) ((x2 - x2 / 81 * 81) : Int32).toNatClampNeg)), none]) (st' := [.int ((M 68) ((x2 - x2 / 81 * 81) : Int32).toNatClampNeg), .int (x2 - x2 / 81 * 81), .ref 68]) rfl ?_
            refine Ev.wr (a := 68) (g := (upd (M 68) ((x2 - x2 / 81 * 81) : Int32).toNatClampNeg ((M 68) ((x2 - x2 / 81 * 81) : Int32).toNatClampNeg))) (i := (x2 - x2 / 81 * 81)) (n := 81) (pc' := 128) (L' := [some (.ref 59), some (.int x1), some (.int x2), some (.int (x2 - x2 / 81 * 81)), some (.int ((x2 - x2 / 81 * 81) + 9)), some (.int ((M 68) ((x2 - x2 / 81 * 81) : Int32).toNatClampNeg)), none]) (st' := []) (by decide) H.1 rfl ?_
            replace H := H.2
            refine Ev.steps 4 (pc' := 136) (L' := [some (.ref 59), some (.int x1), some (.int x2), some (.int (x2 - x2 / 81 * 81)), some (.int ((x2 - x2 / 81 * 81) + 9)), some (.int ((M 68) ((x2 - x2 / 81 * 81) : Int32).toNatClampNeg)), none]) (st' := [.int ((M 68) ((x2 - x2 / 81 * 81) : Int32).toNatClampNeg), .int ((x2 - x2 / 81 * 81) + 9), .ref 68]) rfl ?_
            refine Ev.wr (a := 68) (g := (upd (upd (M 68) ((x2 - x2 / 81 * 81) : Int32).toNatClampNeg ((M 68) ((x2 - x2 / 81 * 81) : Int32).toNatClampNeg)) (((x2 - x2 / 81 * 81) + 9) : Int32).toNatClampNeg ((M 68) ((x2 - x2 / 81 * 81) : Int32).toNatClampNeg))) (i := ((x2 - x2 / 81 * 81) + 9)) (n := 81) (pc' := 137) (L' := [some (.ref 59), some (.int x1), some (.int x2), some (.int (x2 - x2 / 81 * 81)), some (.int ((x2 - x2 / 81 * 81) + 9)), some (.int ((M 68) ((x2 - x2 / 81 * 81) : Int32).toNatClampNeg)), none]) (st' := []) (by decide) H.1 rfl ?_
            replace H := H.2
            refine Ev.mto (M' := (up M 68 (upd (upd (M 68) ((x2 - x2 / 81 * 81) : Int32).toNatClampNeg ((M 68) ((x2 - x2 / 81 * 81) : Int32).toNatClampNeg)) (((x2 - x2 / 81 * 81) + 9) : Int32).toNatClampNeg ((M 68) ((x2 - x2 / 81 * 81) : Int32).toNatClampNeg)))) (by funext q9; unfold up; by_cases e9 : q9 = 68 <;> simp [e9]) ?_
            refine Ev.steps 4 (pc' := 31) (L' := [some (.ref 59), some (.int 1), some (.int (x2 + 1)), some (.int (x2 - x2 / 81 * 81)), some (.int ((x2 - x2 / 81 * 81) + 9)), some (.int ((M 68) ((x2 - x2 / 81 * 81) : Int32).toNatClampNeg)), none]) (st' := []) rfl ?_
            exact Ev.weak [some (.ref 59), some (.int 1), some (.int (x2 + 1)), none, none, none, none] (gw_leb_le ⟨rfl, rfl, rfl, trivial⟩) H
    · replace H := H.2 hc
      refine Ev.steps 8 (pc' := 66) (L' := [some (.ref 59), some (.int x1), some (.int x2), some (.int (x2 - x2 / 81 * 81)), some (.int ((x2 - x2 / 81 * 81) + 1)), none, none]) (st' := [.int x2, .ref 67]) rfl ?_
      refine Ev.rd (i := x2) (n := 162) (pc' := 67) (L' := [some (.ref 59), some (.int x1), some (.int x2), some (.int (x2 - x2 / 81 * 81)), some (.int ((x2 - x2 / 81 * 81) + 1)), none, none]) (st' := [.int ((M 67) (x2 : Int32).toNatClampNeg)]) H.1 rfl ?_
      replace H := H.2
      refine Ev.steps 1 (pc' := if ((M 67) (x2 : Int32).toNatClampNeg) ≤ 0 then 139 else 70) (L' := [some (.ref 59), some (.int x1), some (.int x2), some (.int (x2 - x2 / 81 * 81)), some (.int ((x2 - x2 / 81 * 81) + 1)), none, none]) (st' := []) rfl ?_
      refine Ev_ite (fun hc => ?_) (fun hc => ?_)
      · replace H := H.1 hc
        refine Ev.steps 2 (pc' := 31) (L' := [some (.ref 59), some (.int x1), some (.int (x2 + 1)), some (.int (x2 - x2 / 81 * 81)), some (.int ((x2 - x2 / 81 * 81) + 1)), none, none]) (st' := []) rfl ?_
        exact Ev.weak [some (.ref 59), some (.int x1), some (.int (x2 + 1)), none, none, none, none] (gw_leb_le ⟨rfl, rfl, rfl, trivial⟩) H
      · replace H := H.2 hc
        refine Ev.steps 3 (pc' := 75) (L' := [some (.ref 59), some (.int x1), some (.int x2), some (.int (x2 - x2 / 81 * 81)), some (.int ((x2 - x2 / 81 * 81) + 1)), none, none]) (st' := [.int (x2 - x2 / 81 * 81), .ref 68]) rfl ?_
        refine Ev.rd (i := (x2 - x2 / 81 * 81)) (n := 81) (pc' := 76) (L' := [some (.ref 59), some (.int x1), some (.int x2), some (.int (x2 - x2 / 81 * 81)), some (.int ((x2 - x2 / 81 * 81) + 1)), none, none]) (st' := [.int ((M 68) ((x2 - x2 / 81 * 81) : Int32).toNatClampNeg)]) H.1 rfl ?_
        replace H := H.2
        refine Ev.steps 3 (pc' := 82) (L' := [some (.ref 59), some (.int x1), some (.int x2), some (.int (x2 - x2 / 81 * 81)), some (.int ((x2 - x2 / 81 * 81) + 1)), none, none]) (st' := [.int ((x2 - x2 / 81 * 81) + 1), .ref 68, .int ((M 68) ((x2 - x2 / 81 * 81) : Int32).toNatClampNeg)]) rfl ?_
        refine Ev.rd (i := ((x2 - x2 / 81 * 81) + 1)) (n := 81) (pc' := 83) (L' := [some (.ref 59), some (.int x1), some (.int x2), some (.int (x2 - x2 / 81 * 81)), some (.int ((x2 - x2 / 81 * 81) + 1)), none, none]) (st' := [.int ((M 68) (((x2 - x2 / 81 * 81) + 1) : Int32).toNatClampNeg), .int ((M 68) ((x2 - x2 / 81 * 81) : Int32).toNatClampNeg)]) H.1 rfl ?_
        replace H := H.2
        refine Ev.steps 1 (pc' := if ((M 68) ((x2 - x2 / 81 * 81) : Int32).toNatClampNeg) = ((M 68) (((x2 - x2 / 81 * 81) + 1) : Int32).toNatClampNeg) then 139 else 86) (L' := [some (.ref 59), some (.int x1), some (.int x2), some (.int (x2 - x2 / 81 * 81)), some (.int ((x2 - x2 / 81 * 81) + 1)), none, none]) (st' := []) rfl ?_
        refine Ev_ite (fun hc => ?_) (fun hc => ?_)
        · replace H := H.1 hc
          refine Ev.steps 2 (pc' := 31) (L' := [some (.ref 59), some (.int x1), some (.int (x2 + 1)), some (.int (x2 - x2 / 81 * 81)), some (.int ((x2 - x2 / 81 * 81) + 1)), none, none]) (st' := []) rfl ?_
          exact Ev.weak [some (.ref 59), some (.int x1), some (.int (x2 + 1)), none, none, none, none] (gw_leb_le ⟨rfl, rfl, rfl, trivial⟩) H
        · replace H := H.2 hc
          refine Ev.steps 3 (pc' := 91) (L' := [some (.ref 59), some (.int x1), some (.int x2), some (.int (x2 - x2 / 81 * 81)), some (.int ((x2 - x2 / 81 * 81) + 1)), none, none]) (st' := [.int (x2 - x2 / 81 * 81), .ref 68]) rfl ?_
          refine Ev.rd (i := (x2 - x2 / 81 * 81)) (n := 81) (pc' := 92) (L' := [some (.ref 59), some (.int x1), some (.int x2), some (.int (x2 - x2 / 81 * 81)), some (.int ((x2 - x2 / 81 * 81) + 1)), none, none]) (st' := [.int ((M 68) ((x2 - x2 / 81 * 81) : Int32).toNatClampNeg)]) H.1 rfl ?_
          replace H := H.2
          refine Ev.steps 3 (pc' := 98) (L' := [some (.ref 59), some (.int x1), some (.int x2), some (.int (x2 - x2 / 81 * 81)), some (.int ((x2 - x2 / 81 * 81) + 1)), none, none]) (st' := [.int ((x2 - x2 / 81 * 81) + 1), .ref 68, .int ((M 68) ((x2 - x2 / 81 * 81) : Int32).toNatClampNeg)]) rfl ?_
          refine Ev.rd (i := ((x2 - x2 / 81 * 81) + 1)) (n := 81) (pc' := 99) (L' := [some (.ref 59), some (.int x1), some (.int x2), some (.int (x2 - x2 / 81 * 81)), some (.int ((x2 - x2 / 81 * 81) + 1)), none, none]) (st' := [.int ((M 68) (((x2 - x2 / 81 * 81) + 1) : Int32).toNatClampNeg), .int ((M 68) ((x2 - x2 / 81 * 81) : Int32).toNatClampNeg)]) H.1 rfl ?_
          replace H := H.2
          refine Ev.steps 1 (pc' := if ((M 68) (((x2 - x2 / 81 * 81) + 1) : Int32).toNatClampNeg) ≤ ((M 68) ((x2 - x2 / 81 * 81) : Int32).toNatClampNeg) then 111 else 102) (L' := [some (.ref 59), some (.int x1), some (.int x2), some (.int (x2 - x2 / 81 * 81)), some (.int ((x2 - x2 / 81 * 81) + 1)), none, none]) (st' := []) rfl ?_
          refine Ev_ite (fun hc => ?_) (fun hc => ?_)
          · replace H := H.1 hc
            refine Ev.steps 3 (pc' := 117) (L' := [some (.ref 59), some (.int x1), some (.int x2), some (.int (x2 - x2 / 81 * 81)), some (.int ((x2 - x2 / 81 * 81) + 1)), none, none]) (st' := [.int ((x2 - x2 / 81 * 81) + 1), .ref 68]) rfl ?_
            refine Ev.rd (i := ((x2 - x2 / 81 * 81) + 1)) (n := 81) (pc' := 118) (L' := [some (.ref 59), some (.int x1), some (.int x2), some (.int (x2 - x2 / 81 * 81)), some (.int ((x2 - x2 / 81 * 81) + 1)), none, none]) (st' := [.int ((M 68) (((x2 - x2 / 81 * 81) + 1) : Int32).toNatClampNeg)]) H.1 rfl ?_
            replace H := H.2
            refine Ev.steps 5 (pc' := 127) (L' := [some (.ref 59), some (.int x1), some (.int x2), some (.int (x2 - x2 / 81 * 81)), some (.int ((x2 - x2 / 81 * 81) + 1)), some (.int ((M 68) (((x2 - x2 / 81 * 81) + 1) : Int32).toNatClampNeg)), none]) (st' := [.int ((M 68) (((x2 - x2 / 81 * 81) + 1) : Int32).toNatClampNeg), .int (x2 - x2 / 81 * 81), .ref 68]) rfl ?_
            refine Ev.wr (a := 68) (g := (upd (M 68) ((x2 - x2 / 81 * 81) : Int32).toNatClampNeg ((M 68) (((x2 - x2 / 81 * 81) + 1) : Int32).toNatClampNeg))) (i := (x2 - x2 / 81 * 81)) (n := 81) (pc' := 128) (L' := [some (.ref 59), some (.int x1), some (.int x2), some (.int (x2 - x2 / 81 * 81)), some (.int ((x2 - x2 / 81 * 81) + 1)), some (.int ((M 68) (((x2 - x2 / 81 * 81) + 1) : Int32).toNatClampNeg)), none]) (st' := []) (by decide) H.1 rfl ?_
            replace H := H.2
            refine Ev.steps 4 (pc' := 136) (L' := [some (.ref 59), some (.int x1), some (.int x2), some (.int (x2 - x2 / 81 * 81)), some (.int ((x2 - x2 / 81 * 81) + 1)), some (.int ((M 68) (((x2 - x2 / 81 * 81) + 1) : Int32).toNatClampNeg)), none]) (st' := [.int ((M 68) (((x2 - x2 / 81 * 81) + 1) : Int32).toNatClampNeg), .int ((x2 - x2 / 81 * 81) + 1), .ref 68]) rfl ?_
            refine Ev.wr (a := 68) (g := (upd (upd (M 68) ((x2 - x2 / 81 * 81) : Int32).toNatClampNeg ((M 68) (((x2 - x2 / 81 * 81) + 1) : Int32).toNatClampNeg)) (((x2 - x2 / 81 * 81) + 1) : Int32).toNatClampNeg ((M 68) (((x2 - x2 / 81 * 81) + 1) : Int32).toNatClampNeg))) (i := ((x2 - x2 / 81 * 81) + 1)) (n := 81) (pc' := 137) (L' := [some (.ref 59), some (.int x1), some (.int x2), some (.int (x2 - x2 / 81 * 81)), some (.int ((x2 - x2 / 81 * 81) + 1)), some (.int ((M 68) (((x2 - x2 / 81 * 81) + 1) : Int32).toNatClampNeg)), none]) (st' := []) (by decide) H.1 rfl ?_
            replace H := H.2
            refine Ev.mto (M' := (up M 68 (upd (upd (M 68) ((x2 - x2 / 81 * 81) : Int32).toNatClampNeg ((M 68) (((x2 - x2 / 81 * 81) + 1) : Int32).toNatClampNeg)) (((x2 - x2 / 81 * 81) + 1) : Int32).toNatClampNeg ((M 68) (((x2 - x2 / 81 * 81) + 1) : Int32).toNatClampNeg)))) (by funext q9; unfold up; by_cases e9 : q9 = 68 <;> simp [e9]) ?_
            refine Ev.steps 4 (pc' := 31) (L' := [some (.ref 59), some (.int 1), some (.int (x2 + 1)), some (.int (x2 - x2 / 81 * 81)), some (.int ((x2 - x2 / 81 * 81) + 1)), some (.int ((M 68) (((x2 - x2 / 81 * 81) + 1) : Int32).toNatClampNeg)), none]) (st' := []) rfl ?_
            exact Ev.weak [some (.ref 59), some (.int 1), some (.int (x2 + 1)), none, none, none, none] (gw_leb_le ⟨rfl, rfl, rfl, trivial⟩) H
          · replace H := H.2 hc
            refine Ev.steps 3 (pc' := 107) (L' := [some (.ref 59), some (.int x1), some (.int x2), some (.int (x2 - x2 / 81 * 81)), some (.int ((x2 - x2 / 81 * 81) + 1)), none, none]) (st' := [.int (x2 - x2 / 81 * 81), .ref 68]) rfl ?_
            refine Ev.rd (i := (x2 - x2 / 81 * 81)) (n := 81) (pc' := 108) (L' := [some (.ref 59), some (.int x1), some (.int x2), some (.int (x2 - x2 / 81 * 81)), some (.int ((x2 - x2 / 81 * 81) + 1)), none, none]) (st' := [.int ((M 68) ((x2 - x2 / 81 * 81) : Int32).toNatClampNeg)]) H.1 rfl ?_
            replace H := H.2
            refine Ev.steps 6 (pc' := 127) (L' := [some (.ref 59), some (.int x1), some (.int x2), some (.int (x2 - x2 / 81 * 81)), some (.int ((x2 - x2 / 81 * 81) + 1)), some (.int ((M 68) ((x2 - x2 / 81 * 81) : Int32).toNatClampNeg)), none]) (st' := [.int ((M 68) ((x2 - x2 / 81 * 81) : Int32).toNatClampNeg), .int (x2 - x2 / 81 * 81), .ref 68]) rfl ?_
            refine Ev.wr (a := 68) (g := (upd (M 68) ((x2 - x2 / 81 * 81) : Int32).toNatClampNeg ((M 68) ((x2 - x2 / 81 * 81) : Int32).toNatClampNeg))) (i := (x2 - x2 / 81 * 81)) (n := 81) (pc' := 128) (L' := [some (.ref 59), some (.int x1), some (.int x2), some (.int (x2 - x2 / 81 * 81)), some (.int ((x2 - x2 / 81 * 81) + 1)), some (.int ((M 68) ((x2 - x2 / 81 * 81) : Int32).toNatClampNeg)), none]) (st' := []) (by decide) H.1 rfl ?_
            replace H := H.2
            refine Ev.steps 4 (pc' := 136) (L' := [some (.ref 59), some (.int x1), some (.int x2), some (.int (x2 - x2 / 81 * 81)), some (.int ((x2 - x2 / 81 * 81) + 1)), some (.int ((M 68) ((x2 - x2 / 81 * 81) : Int32).toNatClampNeg)), none]) (st' := [.int ((M 68) ((x2 - x2 / 81 * 81) : Int32).toNatClampNeg), .int ((x2 - x2 / 81 * 81) + 1), .ref 68]) rfl ?_
            refine Ev.wr (a := 68) (g := (upd (upd (M 68) ((x2 - x2 / 81 * 81) : Int32).toNatClampNeg ((M 68) ((x2 - x2 / 81 * 81) : Int32).toNatClampNeg)) (((x2 - x2 / 81 * 81) + 1) : Int32).toNatClampNeg ((M 68) ((x2 - x2 / 81 * 81) : Int32).toNatClampNeg))) (i := ((x2 - x2 / 81 * 81) + 1)) (n := 81) (pc' := 137) (L' := [some (.ref 59), some (.int x1), some (.int x2), some (.int (x2 - x2 / 81 * 81)), some (.int ((x2 - x2 / 81 * 81) + 1)), some (.int ((M 68) ((x2 - x2 / 81 * 81) : Int32).toNatClampNeg)), none]) (st' := []) (by decide) H.1 rfl ?_
            replace H := H.2
            refine Ev.mto (M' := (up M 68 (upd (upd (M 68) ((x2 - x2 / 81 * 81) : Int32).toNatClampNeg ((M 68) ((x2 - x2 / 81 * 81) : Int32).toNatClampNeg)) (((x2 - x2 / 81 * 81) + 1) : Int32).toNatClampNeg ((M 68) ((x2 - x2 / 81 * 81) : Int32).toNatClampNeg)))) (by funext q9; unfold up; by_cases e9 : q9 = 68 <;> simp [e9]) ?_
            refine Ev.steps 4 (pc' := 31) (L' := [some (.ref 59), some (.int 1), some (.int (x2 + 1)), some (.int (x2 - x2 / 81 * 81)), some (.int ((x2 - x2 / 81 * 81) + 1)), some (.int ((M 68) ((x2 - x2 / 81 * 81) : Int32).toNatClampNeg)), none]) (st' := []) rfl ?_
            exact Ev.weak [some (.ref 59), some (.int 1), some (.int (x2 + 1)), none, none, none, none] (gw_leb_le ⟨rfl, rfl, rfl, trivial⟩) H

set_option maxRecDepth 20000 in
theorem w242_167 {E : gw_N} {M : Mem} {res : Option Value × gw_H} {x2 : Int32} {x3 : Int32} {x4 : Int32} {x5 : Int32} {x6 : Int32} (H : ((81 ≤ x6 → ((x5 = 0 → Ev 5 242 152 [some (.ref 59), none, some (.int (x2 + 0)), some (.int (x3 + 1)), none, none, none] [] (hs E M) res) ∧ (¬ x5 = 0 → ((x4 = 0 → Ev 5 242 152 [some (.ref 59), none, some (.int (x2 + 1)), some (.int (x3 + 1)), none, none, none] [] (hs E M) res) ∧ (¬ x4 = 0 → Ev 5 242 152 [some (.ref 59), none, some (.int (x2 + (x4 / 2))), some (.int (x3 + 1)), none, none, none] [] (hs E M) res))))) ∧ (¬ 81 ≤ x6 → (inb x6 81 ∧ ((((M 68) (x6 : Int32).toNatClampNeg) = x3 → (((F214 M (x6 - x6 / 9 * 9) (x6 / 9)) = 0 → Ev 5 242 167 [some (.ref 59), none, some (.int x2), some (.int x3), some (.int x4), some (.int x5), some (.int (x6 + 1))] [] (hs E M) res) ∧ (¬ (F214 M (x6 - x6 / 9 * 9) (x6 / 9)) = 0 → (P239 M (x6 - x6 / 9 * 9) (x6 / 9) ∧ (P239 M (x6 - x6 / 9 * 9) (x6 / 9) ∧ (((F239 M (x6 - x6 / 9 * 9) (x6 / 9)) ≤ 0 → Ev 5 242 167 [some (.ref 59), none, some (.int x2), some (.int x3), some (.int (x4 + ((F239 M (x6 - x6 / 9 * 9) (x6 / 9)) - (F239 M (x6 - x6 / 9 * 9) (x6 / 9)) / 2 * 2))), some (.int (x5 + 0)), some (.int (x6 + 1))] [] (hs E M) res) ∧ (¬ (F239 M (x6 - x6 / 9 * 9) (x6 / 9)) ≤ 0 → Ev 5 242 167 [some (.ref 59), none, some (.int x2), some (.int x3), some (.int (x4 + ((F239 M (x6 - x6 / 9 * 9) (x6 / 9)) - (F239 M (x6 - x6 / 9 * 9) (x6 / 9)) / 2 * 2))), some (.int (x5 + 1)), some (.int (x6 + 1))] [] (hs E M) res))))))) ∧ (¬ ((M 68) (x6 : Int32).toNatClampNeg) = x3 → Ev 5 242 167 [some (.ref 59), none, some (.int x2), some (.int x3), some (.int x4), some (.int x5), some (.int (x6 + 1))] [] (hs E M) res)))))) : Ev 5 242 167 [some (.ref 59), none, some (.int x2), some (.int x3), some (.int x4), some (.int x5), some (.int x6)] [] (hs E M) res := by
  refine Ev.steps 3 (pc' := if 81 ≤ x6 then 256 else 174) (L' := [some (.ref 59), none, some (.int x2), some (.int x3), some (.int x4), some (.int x5), some (.int x6)]) (st' := []) rfl ?_
  refine Ev_ite (fun hc => ?_) (fun hc => ?_)
  · replace H := H.1 hc
    refine Ev.steps 3 (pc' := if x5 = 0 then 262 else 266) (L' := [some (.ref 59), none, some (.int x2), some (.int x3), some (.int x4), some (.int x5), some (.int x6)]) (st' := [.int x2]) rfl ?_
    refine Ev_ite (fun hc => ?_) (fun hc => ?_)
    · replace H := H.1 hc
      refine Ev.steps 6 (pc' := 152) (L' := [some (.ref 59), none, some (.int (x2 + 0)), some (.int (x3 + 1)), some (.int x4), some (.int x5), some (.int x6)]) (st' := []) rfl ?_
      exact Ev.weak [some (.ref 59), none, some (.int (x2 + 0)), some (.int (x3 + 1)), none, none, none] (gw_leb_le ⟨rfl, rfl, rfl, trivial⟩) H
    · replace H := H.2 hc
      refine Ev.steps 2 (pc' := if x4 = 0 then 271 else 275) (L' := [some (.ref 59), none, some (.int x2), some (.int x3), some (.int x4), some (.int x5), some (.int x6)]) (st' := [.int x2]) rfl ?_
      refine Ev_ite (fun hc => ?_) (fun hc => ?_)
      · replace H := H.1 hc
        refine Ev.steps 6 (pc' := 152) (L' := [some (.ref 59), none, some (.int (x2 + 1)), some (.int (x3 + 1)), some (.int x4), some (.int x5), some (.int x6)]) (st' := []) rfl ?_
        exact Ev.weak [some (.ref 59), none, some (.int (x2 + 1)), some (.int (x3 + 1)), none, none, none] (gw_leb_le ⟨rfl, rfl, rfl, trivial⟩) H
      · replace H := H.2 hc
        refine Ev.steps 2 (pc' := 278) (L' := [some (.ref 59), none, some (.int x2), some (.int x3), some (.int x4), some (.int x5), some (.int x6)]) (st' := [.int 2, .int x4, .int x2]) rfl ?_
        refine Ev.dv (y := 2) (pc' := 279) (L' := [some (.ref 59), none, some (.int x2), some (.int x3), some (.int x4), some (.int x5), some (.int x6)]) (st' := [.int (x4 / 2), .int x2]) (by decide) rfl ?_
        refine Ev.steps 4 (pc' := 152) (L' := [some (.ref 59), none, some (.int (x2 + (x4 / 2))), some (.int (x3 + 1)), some (.int x4), some (.int x5), some (.int x6)]) (st' := []) rfl ?_
        exact Ev.weak [some (.ref 59), none, some (.int (x2 + (x4 / 2))), some (.int (x3 + 1)), none, none, none] (gw_leb_le ⟨rfl, rfl, rfl, trivial⟩) H
  · replace H := H.2 hc
    refine Ev.steps 3 (pc' := 180) (L' := [some (.ref 59), none, some (.int x2), some (.int x3), some (.int x4), some (.int x5), some (.int x6)]) (st' := [.int x6, .ref 68]) rfl ?_
    refine Ev.rd (i := x6) (n := 81) (pc' := 181) (L' := [some (.ref 59), none, some (.int x2), some (.int x3), some (.int x4), some (.int x5), some (.int x6)]) (st' := [.int ((M 68) (x6 : Int32).toNatClampNeg)]) H.1 rfl ?_
    replace H := H.2
    refine Ev.steps 2 (pc' := if ((M 68) (x6 : Int32).toNatClampNeg) = x3 then 185 else 250) (L' := [some (.ref 59), none, some (.int x2), some (.int x3), some (.int x4), some (.int x5), some (.int x6)]) (st' := []) rfl ?_
    refine Ev_ite (fun hc => ?_) (fun hc => ?_)
    · replace H := H.1 hc
      refine Ev.steps 3 (pc' := 190) (L' := [some (.ref 59), none, some (.int x2), some (.int x3), some (.int x4), some (.int x5), some (.int x6)]) (st' := [.int 9, .int x6, .ref 59]) rfl ?_
      refine Ev.dv (y := 9) (pc' := 191) (L' := [some (.ref 59), none, some (.int x2), some (.int x3), some (.int x4), some (.int x5), some (.int x6)]) (st' := [.int (x6 - x6 / 9 * 9), .ref 59]) (by decide) rfl ?_
      refine Ev.steps 2 (pc' := 195) (L' := [some (.ref 59), none, some (.int x2), some (.int x3), some (.int x4), some (.int x5), some (.int x6)]) (st' := [.int 9, .int x6, .int (x6 - x6 / 9 * 9), .ref 59]) rfl ?_
      refine Ev.dv (y := 9) (pc' := 196) (L' := [some (.ref 59), none, some (.int x2), some (.int x3), some (.int x4), some (.int x5), some (.int x6)]) (st' := [.int (x6 / 9), .int (x6 - x6 / 9 * 9), .ref 59]) (by decide) rfl ?_
      refine Ev.call (y := 214) (args := [.ref 59, .int (x6 - x6 / 9 * 9), .int (x6 / 9)]) (rest := []) (r := some (.int (F214 M (x6 - x6 / 9 * 9) (x6 / 9)))) rfl (s214) ?_
      show Ev 5 242 199 [some (.ref 59), none, some (.int x2), some (.int x3), some (.int x4), some (.int x5), some (.int x6)] [.int (F214 M (x6 - x6 / 9 * 9) (x6 / 9))] _ _
      refine Ev.steps 1 (pc' := if (F214 M (x6 - x6 / 9 * 9) (x6 / 9)) = 0 then 250 else 202) (L' := [some (.ref 59), none, some (.int x2), some (.int x3), some (.int x4), some (.int x5), some (.int x6)]) (st' := []) rfl ?_
      refine Ev_ite (fun hc => ?_) (fun hc => ?_)
      · replace H := H.1 hc
        refine Ev.steps 2 (pc' := 167) (L' := [some (.ref 59), none, some (.int x2), some (.int x3), some (.int x4), some (.int x5), some (.int (x6 + 1))]) (st' := []) rfl ?_
        exact Ev.weak [some (.ref 59), none, some (.int x2), some (.int x3), some (.int x4), some (.int x5), some (.int (x6 + 1))] (gw_leb_le ⟨rfl, rfl, rfl, rfl, rfl, rfl, trivial⟩) H
      · replace H := H.2 hc
        refine Ev.steps 4 (pc' := 209) (L' := [some (.ref 59), none, some (.int x2), some (.int x3), some (.int x4), some (.int x5), some (.int x6)]) (st' := [.int 9, .int x6, .ref 59, .int x4]) rfl ?_
        refine Ev.dv (y := 9) (pc' := 210) (L' := [some (.ref 59), none, some (.int x2), some (.int x3), some (.int x4), some (.int x5), some (.int x6)]) (st' := [.int (x6 - x6 / 9 * 9), .ref 59, .int x4]) (by decide) rfl ?_
        refine Ev.steps 2 (pc' := 214) (L' := [some (.ref 59), none, some (.int x2), some (.int x3), some (.int x4), some (.int x5), some (.int x6)]) (st' := [.int 9, .int x6, .int (x6 - x6 / 9 * 9), .ref 59, .int x4]) rfl ?_
        refine Ev.dv (y := 9) (pc' := 215) (L' := [some (.ref 59), none, some (.int x2), some (.int x3), some (.int x4), some (.int x5), some (.int x6)]) (st' := [.int (x6 / 9), .int (x6 - x6 / 9 * 9), .ref 59, .int x4]) (by decide) rfl ?_
        refine Ev.call (y := 239) (args := [.ref 59, .int (x6 - x6 / 9 * 9), .int (x6 / 9)]) (rest := [.int x4]) (r := some (.int (F239 M (x6 - x6 / 9 * 9) (x6 / 9)))) rfl (s239 H.1) ?_
        replace H := H.2
        show Ev 5 242 218 [some (.ref 59), none, some (.int x2), some (.int x3), some (.int x4), some (.int x5), some (.int x6)] [.int (F239 M (x6 - x6 / 9 * 9) (x6 / 9)), .int x4] _ _
        refine Ev.steps 1 (pc' := 219) (L' := [some (.ref 59), none, some (.int x2), some (.int x3), some (.int x4), some (.int x5), some (.int x6)]) (st' := [.int 2, .int (F239 M (x6 - x6 / 9 * 9) (x6 / 9)), .int x4]) rfl ?_
        refine Ev.dv (y := 2) (pc' := 220) (L' := [some (.ref 59), none, some (.int x2), some (.int x3), some (.int x4), some (.int x5), some (.int x6)]) (st' := [.int ((F239 M (x6 - x6 / 9 * 9) (x6 / 9)) - (F239 M (x6 - x6 / 9 * 9) (x6 / 9)) / 2 * 2), .int x4]) (by decide) rfl ?_
        refine Ev.steps 6 (pc' := 230) (L' := [some (.ref 59), none, some (.int x2), some (.int x3), some (.int (x4 + ((F239 M (x6 - x6 / 9 * 9) (x6 / 9)) - (F239 M (x6 - x6 / 9 * 9) (x6 / 9)) / 2 * 2))), some (.int x5), some (.int x6)]) (st' := [.int 9, .int x6, .ref 59, .int x5]) rfl ?_
        refine Ev.dv (y := 9) (pc' := 231) (L' := [some (.ref 59), none, some (.int x2), some (.int x3), some (.int (x4 + ((F239 M (x6 - x6 / 9 * 9) (x6 / 9)) - (F239 M (x6 - x6 / 9 * 9) (x6 / 9)) / 2 * 2))), some (.int x5), some (.int x6)]) (st' := [.int (x6 - x6 / 9 * 9), .ref 59, .int x5]) (by decide) rfl ?_
        refine Ev.steps 2 (pc' := 235) (L' := [some (.ref 59), none, some (.int x2), some (.int x3), some (.int (x4 + ((F239 M (x6 - x6 / 9 * 9) (x6 / 9)) - (F239 M (x6 - x6 / 9 * 9) (x6 / 9)) / 2 * 2))), some (.int x5), some (.int x6)]) (st' := [.int 9, .int x6, .int (x6 - x6 / 9 * 9), .ref 59, .int x5]) rfl ?_
        refine Ev.dv (y := 9) (pc' := 236) (L' := [some (.ref 59), none, some (.int x2), some (.int x3), some (.int (x4 + ((F239 M (x6 - x6 / 9 * 9) (x6 / 9)) - (F239 M (x6 - x6 / 9 * 9) (x6 / 9)) / 2 * 2))), some (.int x5), some (.int x6)]) (st' := [.int (x6 / 9), .int (x6 - x6 / 9 * 9), .ref 59, .int x5]) (by decide) rfl ?_
        refine Ev.call (y := 239) (args := [.ref 59, .int (x6 - x6 / 9 * 9), .int (x6 / 9)]) (rest := [.int x5]) (r := some (.int (F239 M (x6 - x6 / 9 * 9) (x6 / 9)))) rfl (s239 H.1) ?_
        replace H := H.2
        show Ev 5 242 239 [some (.ref 59), none, some (.int x2), some (.int x3), some (.int (x4 + ((F239 M (x6 - x6 / 9 * 9) (x6 / 9)) - (F239 M (x6 - x6 / 9 * 9) (x6 / 9)) / 2 * 2))), some (.int x5), some (.int x6)] [.int (F239 M (x6 - x6 / 9 * 9) (x6 / 9)), .int x5] _ _
        refine Ev.steps 1 (pc' := if (F239 M (x6 - x6 / 9 * 9) (x6 / 9)) ≤ 0 then 246 else 242) (L' := [some (.ref 59), none, some (.int x2), some (.int x3), some (.int (x4 + ((F239 M (x6 - x6 / 9 * 9) (x6 / 9)) - (F239 M (x6 - x6 / 9 * 9) (x6 / 9)) / 2 * 2))), some (.int x5), some (.int x6)]) (st' := [.int x5]) rfl ?_
        refine Ev_ite (fun hc => ?_) (fun hc => ?_)
        · replace H := H.1 hc
          refine Ev.steps 5 (pc' := 167) (L' := [some (.ref 59), none, some (.int x2), some (.int x3), some (.int (x4 + ((F239 M (x6 - x6 / 9 * 9) (x6 / 9)) - (F239 M (x6 - x6 / 9 * 9) (x6 / 9)) / 2 * 2))), some (.int (x5 + 0)), some (.int (x6 + 1))]) (st' := []) rfl ?_
          exact Ev.weak [some (.ref 59), none, some (.int x2), some (.int x3), some (.int (x4 + ((F239 M (x6 - x6 / 9 * 9) (x6 / 9)) - (F239 M (x6 - x6 / 9 * 9) (x6 / 9)) / 2 * 2))), some (.int (x5 + 0)), some (.int (x6 + 1))] (gw_leb_le ⟨rfl, rfl, rfl, rfl, rfl, rfl, trivial⟩) H
        · replace H := H.2 hc
          refine Ev.steps 6 (pc' := 167) (L' := [some (.ref 59), none, some (.int x2), some (.int x3), some (.int (x4 + ((F239 M (x6 - x6 / 9 * 9) (x6 / 9)) - (F239 M (x6 - x6 / 9 * 9) (x6 / 9)) / 2 * 2))), some (.int (x5 + 1)), some (.int (x6 + 1))]) (st' := []) rfl ?_
          exact Ev.weak [some (.ref 59), none, some (.int x2), some (.int x3), some (.int (x4 + ((F239 M (x6 - x6 / 9 * 9) (x6 / 9)) - (F239 M (x6 - x6 / 9 * 9) (x6 / 9)) / 2 * 2))), some (.int (x5 + 1)), some (.int (x6 + 1))] (gw_leb_le ⟨rfl, rfl, rfl, rfl, rfl, rfl, trivial⟩) H
    · replace H := H.2 hc
      refine Ev.steps 2 (pc' := 167) (L' := [some (.ref 59), none, some (.int x2), some (.int x3), some (.int x4), some (.int x5), some (.int (x6 + 1))]) (st' := []) rfl ?_
      exact Ev.weak [some (.ref 59), none, some (.int x2), some (.int x3), some (.int x4), some (.int x5), some (.int (x6 + 1))] (gw_leb_le ⟨rfl, rfl, rfl, rfl, rfl, rfl, trivial⟩) H

-- 253 GlassWiresModel size (I)I
set_option maxRecDepth 20000 in
theorem w253_0 {E : gw_N} {M : Mem} {res : Option Value × gw_H} {x1 : Int32} (H : (∃ (r1 : Int32) (M1 : Mem), Rn 248 [.ref 59, .int x1] (hs E M) (some (.int r1)) (hs E M1) ∧ ((r1 = 0 → res = (some (.int (-101)), hs E M1)) ∧ (¬ r1 = 0 → (∃ (r2 : Int32), Rn 249 [.ref 59, .int x1] (hs E M1) (some (.int r2)) (hs E M1) ∧ res = (some (.int r2), hs E M1)))))) : Ev 5 253 0 [some (.ref 59), some (.int x1)] [] (hs E M) res := by
  refine Ev.steps 2 (pc' := 2) (L' := [some (.ref 59), some (.int x1)]) (st' := [.int x1, .ref 59]) rfl ?_
  obtain ⟨r1, M1, hr1, H⟩ := H
  refine Ev.call (y := 248) (args := [.ref 59, .int x1]) (rest := []) (r := (some (.int r1))) rfl hr1 ?_
  show Ev 5 253 5 [some (.ref 59), some (.int x1)] [.int r1] _ _
  refine Ev.steps 1 (pc' := if r1 = 0 then 16 else 8) (L' := [some (.ref 59), some (.int x1)]) (st' := []) rfl ?_
  refine Ev_ite (fun hc => ?_) (fun hc => ?_)
  · replace H := H.1 hc
    refine Ev.steps 1 (pc' := 18) (L' := [some (.ref 59), some (.int x1)]) (st' := [.int (-101)]) rfl ?_
    subst H
    exact Ev.ret rfl
  · replace H := H.2 hc
    refine Ev.steps 2 (pc' := 10) (L' := [some (.ref 59), some (.int x1)]) (st' := [.int x1, .ref 59]) rfl ?_
    obtain ⟨r2, hr2, H⟩ := H
    refine Ev.call (y := 249) (args := [.ref 59, .int x1]) (rest := []) (r := (some (.int r2))) rfl hr2 ?_
    show Ev 5 253 13 [some (.ref 59), some (.int x1)] [.int r2] _ _
    refine Ev.steps 1 (pc' := 18) (L' := [some (.ref 59), some (.int x1)]) (st' := [.int r2]) rfl ?_
    subst H
    exact Ev.ret rfl

-- 259 GlassWiresModel paints ()I
set_option maxRecDepth 20000 in
theorem w259_0 {E : gw_N} {M : Mem} {res : Option Value × gw_H}  (H : (∃ (M1 : Mem), Rn 255 [.ref 59] (hs E M) none (hs E M1) ∧ ((((M1 59) 15) ≤ 10 → (∃ (r2 : Int32) (M2 : Mem), Rn 258 [.ref 59] (hs E M1) (some (.int r2)) (hs E M2) ∧ res = (some (.int r2), hs E M2))) ∧ (¬ ((M1 59) 15) ≤ 10 → res = (some (.int (-103)), hs E M1))))) : Ev 5 259 0 [some (.ref 59)] [] (hs E M) res := by
  refine Ev.steps 1 (pc' := 1) (L' := [some (.ref 59)]) (st' := [.ref 59]) rfl ?_
  obtain ⟨M1, hr1, H⟩ := H
  refine Ev.call (y := 255) (args := [.ref 59]) (rest := []) (r := none) rfl hr1 ?_
  show Ev 5 259 4 [some (.ref 59)] [] _ _
  refine Ev.steps 4 (pc' := if ((M1 59) 15) ≤ 10 then 18 else 13) (L' := [some (.ref 59)]) (st' := []) rfl ?_
  refine Ev_ite (fun hc => ?_) (fun hc => ?_)
  · replace H := H.1 hc
    refine Ev.steps 1 (pc' := 19) (L' := [some (.ref 59)]) (st' := [.ref 59]) rfl ?_
    obtain ⟨r2, M2, hr2, H⟩ := H
    refine Ev.call (y := 258) (args := [.ref 59]) (rest := []) (r := (some (.int r2))) rfl hr2 ?_
    show Ev 5 259 22 [some (.ref 59)] [.int r2] _ _
    subst H
    exact Ev.ret rfl
  · replace H := H.2 hc
    refine Ev.steps 2 (pc' := 22) (L' := [some (.ref 59)]) (st' := [.int (-103)]) rfl ?_
    subst H
    exact Ev.ret rfl

-- 260 GlassWiresModel paint (I)I
set_option maxRecDepth 20000 in
theorem w260_0 {E : gw_N} {M : Mem} {res : Option Value × gw_H} {x1 : Int32} (H : (∃ (r1 : Int32) (M1 : Mem), Rn 248 [.ref 59, .int x1] (hs E M) (some (.int r1)) (hs E M1) ∧ ((r1 = 0 → res = (some (.int (-101)), hs E M1)) ∧ (¬ r1 = 0 → (∃ (M2 : Mem), Rn 255 [.ref 59] (hs E M1) none (hs E M2) ∧ ((((M2 59) 15) ≤ 10 → (∃ (r3 : Int32) (M3 : Mem), Rn 258 [.ref 59] (hs E M2) (some (.int r3)) (hs E M3) ∧ (∃ (r4 : Int32), Rn 254 [.ref 59, .int x1] (hs E M3) (some (.int r4)) (hs E M3) ∧ (inb r4 10 ∧ res = (some (.int ((M3 72) (r4 : Int32).toNatClampNeg)), hs E M3))))) ∧ (¬ ((M2 59) 15) ≤ 10 → res = (some (.int (-103)), hs E M2)))))))) : Ev 5 260 0 [some (.ref 59), some (.int x1)] [] (hs E M) res := by
  refine Ev.steps 2 (pc' := 2) (L' := [some (.ref 59), some (.int x1)]) (st' := [.int x1, .ref 59]) rfl ?_
  obtain ⟨r1, M1, hr1, H⟩ := H
  refine Ev.call (y := 248) (args := [.ref 59, .int x1]) (rest := []) (r := (some (.int r1))) rfl hr1 ?_
  show Ev 5 260 5 [some (.ref 59), some (.int x1)] [.int r1] _ _
  refine Ev.steps 1 (pc' := if r1 = 0 then 8 else 11) (L' := [some (.ref 59), some (.int x1)]) (st' := []) rfl ?_
  refine Ev_ite (fun hc => ?_) (fun hc => ?_)
  · replace H := H.1 hc
    refine Ev.steps 1 (pc' := 10) (L' := [some (.ref 59), some (.int x1)]) (st' := [.int (-101)]) rfl ?_
    subst H
    exact Ev.ret rfl
  · replace H := H.2 hc
    refine Ev.steps 1 (pc' := 12) (L' := [some (.ref 59), some (.int x1)]) (st' := [.ref 59]) rfl ?_
    obtain ⟨M2, hr2, H⟩ := H
    refine Ev.call (y := 255) (args := [.ref 59]) (rest := []) (r := none) rfl hr2 ?_
    show Ev 5 260 15 [some (.ref 59), some (.int x1)] [] _ _
    refine Ev.steps 4 (pc' := if ((M2 59) 15) ≤ 10 then 27 else 24) (L' := [some (.ref 59), some (.int x1)]) (st' := []) rfl ?_
    refine Ev_ite (fun hc => ?_) (fun hc => ?_)
    · replace H := H.1 hc
      refine Ev.steps 1 (pc' := 28) (L' := [some (.ref 59), some (.int x1)]) (st' := [.ref 59]) rfl ?_
      obtain ⟨r3, M3, hr3, H⟩ := H
      refine Ev.call (y := 258) (args := [.ref 59]) (rest := []) (r := (some (.int r3))) rfl hr3 ?_
      show Ev 5 260 31 [some (.ref 59), some (.int x1)] [.int r3] _ _
      refine Ev.steps 5 (pc' := 38) (L' := [some (.ref 59), some (.int x1)]) (st' := [.int x1, .ref 59, .ref 72]) rfl ?_
      obtain ⟨r4, hr4, H⟩ := H
      refine Ev.call (y := 254) (args := [.ref 59, .int x1]) (rest := [.ref 72]) (r := (some (.int r4))) rfl hr4 ?_
      show Ev 5 260 41 [some (.ref 59), some (.int x1)] [.int r4, .ref 72] _ _
      refine Ev.rd (i := r4) (n := 10) (pc' := 42) (L' := [some (.ref 59), some (.int x1)]) (st' := [.int ((M3 72) (r4 : Int32).toNatClampNeg)]) H.1 rfl ?_
      replace H := H.2
      subst H
      exact Ev.ret rfl
    · replace H := H.2 hc
      refine Ev.steps 1 (pc' := 26) (L' := [some (.ref 59), some (.int x1)]) (st' := [.int (-103)]) rfl ?_
      subst H
      exact Ev.ret rfl

-- 265 GlassWiresModel fill (III)I
set_option maxRecDepth 20000 in
theorem w265_0 {E : gw_N} {M : Mem} {res : Option Value × gw_H} {x1 : Int32} {x2 : Int32} {x3 : Int32} (H : (∃ (r1 : Int32) (M1 : Mem), Rn 248 [.ref 59, .int x1] (hs E M) (some (.int r1)) (hs E M1) ∧ ((r1 = 0 → res = (some (.int (-101)), hs E M1)) ∧ (¬ r1 = 0 → (((F261 M1 x2) = 0 → res = (some (.int (-101)), hs E M1)) ∧ (¬ (F261 M1 x2) = 0 → (((F209 M1 (Int32.toInt64 x3) 1 99) = 0 → res = (some (.int (-102)), hs E M1)) ∧ (¬ (F209 M1 (Int32.toInt64 x3) 1 99) = 0 → Ev 5 265 36 [some (.ref 59), some (.int x1), some (.int x2), some (.int x3), some (.int 0), none] [] (hs E M1) res)))))))) : Ev 5 265 0 [some (.ref 59), some (.int x1), some (.int x2), some (.int x3), none, none] [] (hs E M) res := by
  refine Ev.steps 2 (pc' := 2) (L' := [some (.ref 59), some (.int x1), some (.int x2), some (.int x3), none, none]) (st' := [.int x1, .ref 59]) rfl ?_
  obtain ⟨r1, M1, hr1, H⟩ := H
  refine Ev.call (y := 248) (args := [.ref 59, .int x1]) (rest := []) (r := (some (.int r1))) rfl hr1 ?_
  show Ev 5 265 5 [some (.ref 59), some (.int x1), some (.int x2), some (.int x3), none, none] [.int r1] _ _
  refine Ev.steps 1 (pc' := if r1 = 0 then 15 else 8) (L' := [some (.ref 59), some (.int x1), some (.int x2), some (.int x3), none, none]) (st' := []) rfl ?_
  refine Ev_ite (fun hc => ?_) (fun hc => ?_)
  · replace H := H.1 hc
    refine Ev.steps 1 (pc' := 17) (L' := [some (.ref 59), some (.int x1), some (.int x2), some (.int x3), none, none]) (st' := [.int (-101)]) rfl ?_
    subst H
    exact Ev.ret rfl
  · replace H := H.2 hc
    refine Ev.steps 1 (pc' := 9) (L' := [some (.ref 59), some (.int x1), some (.int x2), some (.int x3), none, none]) (st' := [.int x2]) rfl ?_
    refine Ev.call (y := 261) (args := [.int x2]) (rest := []) (r := some (.int (F261 M1 x2))) rfl (s261) ?_
    show Ev 5 265 12 [some (.ref 59), some (.int x1), some (.int x2), some (.int x3), none, none] [.int (F261 M1 x2)] _ _
    refine Ev.steps 1 (pc' := if (F261 M1 x2) = 0 then 15 else 18) (L' := [some (.ref 59), some (.int x1), some (.int x2), some (.int x3), none, none]) (st' := []) rfl ?_
    refine Ev_ite (fun hc => ?_) (fun hc => ?_)
    · replace H := H.1 hc
      refine Ev.steps 1 (pc' := 17) (L' := [some (.ref 59), some (.int x1), some (.int x2), some (.int x3), none, none]) (st' := [.int (-101)]) rfl ?_
      subst H
      exact Ev.ret rfl
    · replace H := H.2 hc
      refine Ev.steps 4 (pc' := 24) (L' := [some (.ref 59), some (.int x1), some (.int x2), some (.int x3), none, none]) (st' := [.long 99, .long 1, .long (Int32.toInt64 x3)]) rfl ?_
      refine Ev.call (y := 209) (args := [.long (Int32.toInt64 x3), .long 1, .long 99]) (rest := []) (r := some (.int (F209 M1 (Int32.toInt64 x3) 1 99))) rfl (s209) ?_
      show Ev 5 265 27 [some (.ref 59), some (.int x1), some (.int x2), some (.int x3), none, none] [.int (F209 M1 (Int32.toInt64 x3) 1 99)] _ _
      refine Ev.steps 1 (pc' := if (F209 M1 (Int32.toInt64 x3) 1 99) = 0 then 30 else 33) (L' := [some (.ref 59), some (.int x1), some (.int x2), some (.int x3), none, none]) (st' := []) rfl ?_
      refine Ev_ite (fun hc => ?_) (fun hc => ?_)
      · replace H := H.1 hc
        refine Ev.steps 1 (pc' := 32) (L' := [some (.ref 59), some (.int x1), some (.int x2), some (.int x3), none, none]) (st' := [.int (-102)]) rfl ?_
        subst H
        exact Ev.ret rfl
      · replace H := H.2 hc
        refine Ev.steps 2 (pc' := 36) (L' := [some (.ref 59), some (.int x1), some (.int x2), some (.int x3), some (.int 0), none]) (st' := []) rfl ?_
        exact Ev.weak [some (.ref 59), some (.int x1), some (.int x2), some (.int x3), some (.int 0), none] (gw_leb_le ⟨rfl, rfl, rfl, rfl, rfl, trivial⟩) H

set_option maxRecDepth 20000 in
theorem w265_36 {E : gw_N} {M : Mem} {res : Option Value × gw_H} {x1 : Int32} {x2 : Int32} {x3 : Int32} {x4 : Int32} (H : (((F243 M) ≤ x4 → Ev 5 265 80 [some (.ref 59), some (.int x1), some (.int x2), some (.int x3), some (.int 0), none] [] (hs E M) res) ∧ (¬ (F243 M) ≤ x4 → (inb x4 64 ∧ ((((M 69) (x4 : Int32).toNatClampNeg) = x1 → (inb x4 64 ∧ ((((M 77) (x4 : Int32).toNatClampNeg) = 12 → res = (some (.int (-104)), hs E M)) ∧ (¬ ((M 77) (x4 : Int32).toNatClampNeg) = 12 → Ev 5 265 36 [some (.ref 59), some (.int x1), some (.int x2), some (.int x3), some (.int (x4 + 1)), none] [] (hs E M) res)))) ∧ (¬ ((M 69) (x4 : Int32).toNatClampNeg) = x1 → Ev 5 265 36 [some (.ref 59), some (.int x1), some (.int x2), some (.int x3), some (.int (x4 + 1)), none] [] (hs E M) res)))))) : Ev 5 265 36 [some (.ref 59), some (.int x1), some (.int x2), some (.int x3), some (.int x4), none] [] (hs E M) res := by
  refine Ev.steps 2 (pc' := 39) (L' := [some (.ref 59), some (.int x1), some (.int x2), some (.int x3), some (.int x4), none]) (st' := [.ref 59, .int x4]) rfl ?_
  refine Ev.call (y := 243) (args := [.ref 59]) (rest := [.int x4]) (r := some (.int (F243 M))) rfl (s243) ?_
  show Ev 5 265 42 [some (.ref 59), some (.int x1), some (.int x2), some (.int x3), some (.int x4), none] [.int (F243 M), .int x4] _ _
  refine Ev.steps 1 (pc' := if (F243 M) ≤ x4 then 77 else 45) (L' := [some (.ref 59), some (.int x1), some (.int x2), some (.int x3), some (.int x4), none]) (st' := []) rfl ?_
  refine Ev_ite (fun hc => ?_) (fun hc => ?_)
  · replace H := H.1 hc
    refine Ev.steps 2 (pc' := 80) (L' := [some (.ref 59), some (.int x1), some (.int x2), some (.int x3), some (.int 0), none]) (st' := []) rfl ?_
    exact Ev.weak [some (.ref 59), some (.int x1), some (.int x2), some (.int x3), some (.int 0), none] (gw_leb_le ⟨rfl, rfl, rfl, rfl, rfl, trivial⟩) H
  · replace H := H.2 hc
    refine Ev.steps 3 (pc' := 51) (L' := [some (.ref 59), some (.int x1), some (.int x2), some (.int x3), some (.int x4), none]) (st' := [.int x4, .ref 69]) rfl ?_
    refine Ev.rd (i := x4) (n := 64) (pc' := 52) (L' := [some (.ref 59), some (.int x1), some (.int x2), some (.int x3), some (.int x4), none]) (st' := [.int ((M 69) (x4 : Int32).toNatClampNeg)]) H.1 rfl ?_
    replace H := H.2
    refine Ev.steps 2 (pc' := if ((M 69) (x4 : Int32).toNatClampNeg) = x1 then 56 else 71) (L' := [some (.ref 59), some (.int x1), some (.int x2), some (.int x3), some (.int x4), none]) (st' := []) rfl ?_
    refine Ev_ite (fun hc => ?_) (fun hc => ?_)
    · replace H := H.1 hc
      refine Ev.steps 3 (pc' := 62) (L' := [some (.ref 59), some (.int x1), some (.int x2), some (.int x3), some (.int x4), none]) (st' := [.int x4, .ref 77]) rfl ?_
      refine Ev.rd (i := x4) (n := 64) (pc' := 63) (L' := [some (.ref 59), some (.int x1), some (.int x2), some (.int x3), some (.int x4), none]) (st' := [.int ((M 77) (x4 : Int32).toNatClampNeg)]) H.1 rfl ?_
      replace H := H.2
      refine Ev.steps 2 (pc' := if ((M 77) (x4 : Int32).toNatClampNeg) = 12 then 68 else 71) (L' := [some (.ref 59), some (.int x1), some (.int x2), some (.int x3), some (.int x4), none]) (st' := []) rfl ?_
      refine Ev_ite (fun hc => ?_) (fun hc => ?_)
      · replace H := H.1 hc
        refine Ev.steps 1 (pc' := 70) (L' := [some (.ref 59), some (.int x1), some (.int x2), some (.int x3), some (.int x4), none]) (st' := [.int (-104)]) rfl ?_
        subst H
        exact Ev.ret rfl
      · replace H := H.2 hc
        refine Ev.steps 2 (pc' := 36) (L' := [some (.ref 59), some (.int x1), some (.int x2), some (.int x3), some (.int (x4 + 1)), none]) (st' := []) rfl ?_
        exact Ev.weak [some (.ref 59), some (.int x1), some (.int x2), some (.int x3), some (.int (x4 + 1)), none] (gw_leb_le ⟨rfl, rfl, rfl, rfl, rfl, trivial⟩) H
    · replace H := H.2 hc
      refine Ev.steps 2 (pc' := 36) (L' := [some (.ref 59), some (.int x1), some (.int x2), some (.int x3), some (.int (x4 + 1)), none]) (st' := []) rfl ?_
      exact Ev.weak [some (.ref 59), some (.int x1), some (.int x2), some (.int x3), some (.int (x4 + 1)), none] (gw_leb_le ⟨rfl, rfl, rfl, rfl, rfl, trivial⟩) H

set_option maxRecDepth 20000 in
theorem w265_80 {E : gw_N} {M : Mem} {res : Option Value × gw_H} {x1 : Int32} {x2 : Int32} {x3 : Int32} {x4 : Int32} (H : (((F243 M) ≤ x4 → (∃ (r1 : Int32), Rn 249 [.ref 59, .int x1] (hs E M) (some (.int r1)) (hs E M) ∧ res = (some (.int r1), hs E M))) ∧ (¬ (F243 M) ≤ x4 → (inb x4 64 ∧ ((((M 69) (x4 : Int32).toNatClampNeg) = x1 → (inb x4 64 ∧ (inb ((12 * x4) + ((M 77) (x4 : Int32).toNatClampNeg)) 768 ∧ (inb ((12 * x4) + ((M 77) (x4 : Int32).toNatClampNeg)) 768 ∧ (inb ((12 * x4) + ((M 77) (x4 : Int32).toNatClampNeg)) 768 ∧ (inb x4 64 ∧ (inb x4 64 ∧ Ev 5 265 80 [some (.ref 59), some (.int x1), some (.int x2), some (.int x3), some (.int (x4 + 1)), none] [] (hs E (up (up (up (up M 78 (upd (M 78) (((12 * x4) + ((M 77) (x4 : Int32).toNatClampNeg)) : Int32).toNatClampNeg x2)) 79 (upd (M 79) (((12 * x4) + ((M 77) (x4 : Int32).toNatClampNeg)) : Int32).toNatClampNeg x3)) 80 (upd (M 80) (((12 * x4) + ((M 77) (x4 : Int32).toNatClampNeg)) : Int32).toNatClampNeg 0)) 77 (upd (M 77) (x4 : Int32).toNatClampNeg (((M 77) (x4 : Int32).toNatClampNeg) + 1)))) res))))))) ∧ (¬ ((M 69) (x4 : Int32).toNatClampNeg) = x1 → Ev 5 265 80 [some (.ref 59), some (.int x1), some (.int x2), some (.int x3), some (.int (x4 + 1)), none] [] (hs E M) res)))))) : Ev 5 265 80 [some (.ref 59), some (.int x1), some (.int x2), some (.int x3), some (.int x4), none] [] (hs E M) res := by
  refine Ev.steps 2 (pc' := 83) (L' := [some (.ref 59), some (.int x1), some (.int x2), some (.int x3), some (.int x4), none]) (st' := [.ref 59, .int x4]) rfl ?_
  refine Ev.call (y := 243) (args := [.ref 59]) (rest := [.int x4]) (r := some (.int (F243 M))) rfl (s243) ?_
  show Ev 5 265 86 [some (.ref 59), some (.int x1), some (.int x2), some (.int x3), some (.int x4), none] [.int (F243 M), .int x4] _ _
  refine Ev.steps 1 (pc' := if (F243 M) ≤ x4 then 156 else 89) (L' := [some (.ref 59), some (.int x1), some (.int x2), some (.int x3), some (.int x4), none]) (st' := []) rfl ?_
  refine Ev_ite (fun hc => ?_) (fun hc => ?_)
  · replace H := H.1 hc
    refine Ev.steps 2 (pc' := 158) (L' := [some (.ref 59), some (.int x1), some (.int x2), some (.int x3), some (.int x4), none]) (st' := [.int x1, .ref 59]) rfl ?_
    obtain ⟨r1, hr1, H⟩ := H
    refine Ev.call (y := 249) (args := [.ref 59, .int x1]) (rest := []) (r := (some (.int r1))) rfl hr1 ?_
    show Ev 5 265 161 [some (.ref 59), some (.int x1), some (.int x2), some (.int x3), some (.int x4), none] [.int r1] _ _
    subst H
    exact Ev.ret rfl
  · replace H := H.2 hc
    refine Ev.steps 3 (pc' := 95) (L' := [some (.ref 59), some (.int x1), some (.int x2), some (.int x3), some (.int x4), none]) (st' := [.int x4, .ref 69]) rfl ?_
    refine Ev.rd (i := x4) (n := 64) (pc' := 96) (L' := [some (.ref 59), some (.int x1), some (.int x2), some (.int x3), some (.int x4), none]) (st' := [.int ((M 69) (x4 : Int32).toNatClampNeg)]) H.1 rfl ?_
    replace H := H.2
    refine Ev.steps 2 (pc' := if ((M 69) (x4 : Int32).toNatClampNeg) = x1 then 100 else 150) (L' := [some (.ref 59), some (.int x1), some (.int x2), some (.int x3), some (.int x4), none]) (st' := []) rfl ?_
    refine Ev_ite (fun hc => ?_) (fun hc => ?_)
    · replace H := H.1 hc
      refine Ev.steps 6 (pc' := 111) (L' := [some (.ref 59), some (.int x1), some (.int x2), some (.int x3), some (.int x4), none]) (st' := [.int x4, .ref 77, .int (12 * x4)]) rfl ?_
      refine Ev.rd (i := x4) (n := 64) (pc' := 112) (L' := [some (.ref 59), some (.int x1), some (.int x2), some (.int x3), some (.int x4), none]) (st' := [.int ((M 77) (x4 : Int32).toNatClampNeg), .int (12 * x4)]) H.1 rfl ?_
      replace H := H.2
      refine Ev.steps 6 (pc' := 122) (L' := [some (.ref 59), some (.int x1), some (.int x2), some (.int x3), some (.int x4), some (.int ((12 * x4) + ((M 77) (x4 : Int32).toNatClampNeg)))]) (st' := [.int x2, .int ((12 * x4) + ((M 77) (x4 : Int32).toNatClampNeg)), .ref 78]) rfl ?_
      refine Ev.wr (a := 78) (g := (upd (M 78) (((12 * x4) + ((M 77) (x4 : Int32).toNatClampNeg)) : Int32).toNatClampNeg x2)) (i := ((12 * x4) + ((M 77) (x4 : Int32).toNatClampNeg))) (n := 768) (pc' := 123) (L' := [some (.ref 59), some (.int x1), some (.int x2), some (.int x3), some (.int x4), some (.int ((12 * x4) + ((M 77) (x4 : Int32).toNatClampNeg)))]) (st' := []) (by decide) H.1 rfl ?_
      replace H := H.2
      refine Ev.steps 4 (pc' := 130) (L' := [some (.ref 59), some (.int x1), some (.int x2), some (.int x3), some (.int x4), some (.int ((12 * x4) + ((M 77) (x4 : Int32).toNatClampNeg)))]) (st' := [.int x3, .int ((12 * x4) + ((M 77) (x4 : Int32).toNatClampNeg)), .ref 79]) rfl ?_
      refine Ev.wr (a := 79) (g := (upd (M 79) (((12 * x4) + ((M 77) (x4 : Int32).toNatClampNeg)) : Int32).toNatClampNeg x3)) (i := ((12 * x4) + ((M 77) (x4 : Int32).toNatClampNeg))) (n := 768) (pc' := 131) (L' := [some (.ref 59), some (.int x1), some (.int x2), some (.int x3), some (.int x4), some (.int ((12 * x4) + ((M 77) (x4 : Int32).toNatClampNeg)))]) (st' := []) (by decide) H.1 rfl ?_
      replace H := H.2
      refine Ev.steps 4 (pc' := 138) (L' := [some (.ref 59), some (.int x1), some (.int x2), some (.int x3), some (.int x4), some (.int ((12 * x4) + ((M 77) (x4 : Int32).toNatClampNeg)))]) (st' := [.int 0, .int ((12 * x4) + ((M 77) (x4 : Int32).toNatClampNeg)), .ref 80]) rfl ?_
      refine Ev.wr (a := 80) (g := (upd (M 80) (((12 * x4) + ((M 77) (x4 : Int32).toNatClampNeg)) : Int32).toNatClampNeg 0)) (i := ((12 * x4) + ((M 77) (x4 : Int32).toNatClampNeg))) (n := 768) (pc' := 139) (L' := [some (.ref 59), some (.int x1), some (.int x2), some (.int x3), some (.int x4), some (.int ((12 * x4) + ((M 77) (x4 : Int32).toNatClampNeg)))]) (st' := []) (by decide) H.1 rfl ?_
      replace H := H.2
      refine Ev.steps 4 (pc' := 146) (L' := [some (.ref 59), some (.int x1), some (.int x2), some (.int x3), some (.int x4), some (.int ((12 * x4) + ((M 77) (x4 : Int32).toNatClampNeg)))]) (st' := [.int x4, .ref 77, .int x4, .ref 77]) rfl ?_
      refine Ev.rd (i := x4) (n := 64) (pc' := 147) (L' := [some (.ref 59), some (.int x1), some (.int x2), some (.int x3), some (.int x4), some (.int ((12 * x4) + ((M 77) (x4 : Int32).toNatClampNeg)))]) (st' := [.int ((M 77) (x4 : Int32).toNatClampNeg), .int x4, .ref 77]) H.1 rfl ?_
      replace H := H.2
      refine Ev.steps 2 (pc' := 149) (L' := [some (.ref 59), some (.int x1), some (.int x2), some (.int x3), some (.int x4), some (.int ((12 * x4) + ((M 77) (x4 : Int32).toNatClampNeg)))]) (st' := [.int (((M 77) (x4 : Int32).toNatClampNeg) + 1), .int x4, .ref 77]) rfl ?_
      refine Ev.wr (a := 77) (g := (upd (M 77) (x4 : Int32).toNatClampNeg (((M 77) (x4 : Int32).toNatClampNeg) + 1))) (i := x4) (n := 64) (pc' := 150) (L' := [some (.ref 59), some (.int x1), some (.int x2), some (.int x3), some (.int x4), some (.int ((12 * x4) + ((M 77) (x4 : Int32).toNatClampNeg)))]) (st' := []) (by decide) H.1 rfl ?_
      replace H := H.2
      refine Ev.steps 2 (pc' := 80) (L' := [some (.ref 59), some (.int x1), some (.int x2), some (.int x3), some (.int (x4 + 1)), some (.int ((12 * x4) + ((M 77) (x4 : Int32).toNatClampNeg)))]) (st' := []) rfl ?_
      exact Ev.weak [some (.ref 59), some (.int x1), some (.int x2), some (.int x3), some (.int (x4 + 1)), none] (gw_leb_le ⟨rfl, rfl, rfl, rfl, rfl, trivial⟩) H
    · replace H := H.2 hc
      refine Ev.steps 2 (pc' := 80) (L' := [some (.ref 59), some (.int x1), some (.int x2), some (.int x3), some (.int (x4 + 1)), none]) (st' := []) rfl ?_
      exact Ev.weak [some (.ref 59), some (.int x1), some (.int x2), some (.int x3), some (.int (x4 + 1)), none] (gw_leb_le ⟨rfl, rfl, rfl, rfl, rfl, trivial⟩) H

-- 266 GlassWiresModel empty (I)I
set_option maxRecDepth 20000 in
theorem w266_0 {E : gw_N} {M : Mem} {res : Option Value × gw_H} {x1 : Int32} (H : (∃ (r1 : Int32) (M1 : Mem), Rn 248 [.ref 59, .int x1] (hs E M) (some (.int r1)) (hs E M1) ∧ ((r1 = 0 → res = (some (.int (-101)), hs E M1)) ∧ (¬ r1 = 0 → Ev 5 266 15 [some (.ref 59), some (.int x1), some (.int 0), some (.int 0)] [] (hs E M1) res)))) : Ev 5 266 0 [some (.ref 59), some (.int x1), none, none] [] (hs E M) res := by
  refine Ev.steps 2 (pc' := 2) (L' := [some (.ref 59), some (.int x1), none, none]) (st' := [.int x1, .ref 59]) rfl ?_
  obtain ⟨r1, M1, hr1, H⟩ := H
  refine Ev.call (y := 248) (args := [.ref 59, .int x1]) (rest := []) (r := (some (.int r1))) rfl hr1 ?_
  show Ev 5 266 5 [some (.ref 59), some (.int x1), none, none] [.int r1] _ _
  refine Ev.steps 1 (pc' := if r1 = 0 then 8 else 11) (L' := [some (.ref 59), some (.int x1), none, none]) (st' := []) rfl ?_
  refine Ev_ite (fun hc => ?_) (fun hc => ?_)
  · replace H := H.1 hc
    refine Ev.steps 1 (pc' := 10) (L' := [some (.ref 59), some (.int x1), none, none]) (st' := [.int (-101)]) rfl ?_
    subst H
    exact Ev.ret rfl
  · replace H := H.2 hc
    refine Ev.steps 4 (pc' := 15) (L' := [some (.ref 59), some (.int x1), some (.int 0), some (.int 0)]) (st' := []) rfl ?_
    exact Ev.weak [some (.ref 59), some (.int x1), some (.int 0), some (.int 0)] (gw_leb_le ⟨rfl, rfl, rfl, rfl, trivial⟩) H

set_option maxRecDepth 20000 in
theorem w266_15 {E : gw_N} {M : Mem} {res : Option Value × gw_H} {x1 : Int32} {x2 : Int32} {x3 : Int32} (H : (((F243 M) ≤ x3 → res = (some (.int x2), hs E M)) ∧ (¬ (F243 M) ≤ x3 → (inb x3 64 ∧ ((((M 69) (x3 : Int32).toNatClampNeg) = x1 → (inb x3 64 ∧ (inb x3 64 ∧ Ev 5 266 15 [some (.ref 59), some (.int x1), some (.int (x2 + ((M 77) (x3 : Int32).toNatClampNeg))), some (.int (x3 + 1))] [] (hs E (up M 77 (upd (M 77) (x3 : Int32).toNatClampNeg 0))) res))) ∧ (¬ ((M 69) (x3 : Int32).toNatClampNeg) = x1 → Ev 5 266 15 [some (.ref 59), some (.int x1), some (.int x2), some (.int (x3 + 1))] [] (hs E M) res)))))) : Ev 5 266 15 [some (.ref 59), some (.int x1), some (.int x2), some (.int x3)] [] (hs E M) res := by
  refine Ev.steps 2 (pc' := 17) (L' := [some (.ref 59), some (.int x1), some (.int x2), some (.int x3)]) (st' := [.ref 59, .int x3]) rfl ?_
  refine Ev.call (y := 243) (args := [.ref 59]) (rest := [.int x3]) (r := some (.int (F243 M))) rfl (s243) ?_
  show Ev 5 266 20 [some (.ref 59), some (.int x1), some (.int x2), some (.int x3)] [.int (F243 M), .int x3] _ _
  refine Ev.steps 1 (pc' := if (F243 M) ≤ x3 then 55 else 23) (L' := [some (.ref 59), some (.int x1), some (.int x2), some (.int x3)]) (st' := []) rfl ?_
  refine Ev_ite (fun hc => ?_) (fun hc => ?_)
  · replace H := H.1 hc
    refine Ev.steps 1 (pc' := 56) (L' := [some (.ref 59), some (.int x1), some (.int x2), some (.int x3)]) (st' := [.int x2]) rfl ?_
    subst H
    exact Ev.ret rfl
  · replace H := H.2 hc
    refine Ev.steps 3 (pc' := 28) (L' := [some (.ref 59), some (.int x1), some (.int x2), some (.int x3)]) (st' := [.int x3, .ref 69]) rfl ?_
    refine Ev.rd (i := x3) (n := 64) (pc' := 29) (L' := [some (.ref 59), some (.int x1), some (.int x2), some (.int x3)]) (st' := [.int ((M 69) (x3 : Int32).toNatClampNeg)]) H.1 rfl ?_
    replace H := H.2
    refine Ev.steps 2 (pc' := if ((M 69) (x3 : Int32).toNatClampNeg) = x1 then 33 else 49) (L' := [some (.ref 59), some (.int x1), some (.int x2), some (.int x3)]) (st' := []) rfl ?_
    refine Ev_ite (fun hc => ?_) (fun hc => ?_)
    · replace H := H.1 hc
      refine Ev.steps 4 (pc' := 39) (L' := [some (.ref 59), some (.int x1), some (.int x2), some (.int x3)]) (st' := [.int x3, .ref 77, .int x2]) rfl ?_
      refine Ev.rd (i := x3) (n := 64) (pc' := 40) (L' := [some (.ref 59), some (.int x1), some (.int x2), some (.int x3)]) (st' := [.int ((M 77) (x3 : Int32).toNatClampNeg), .int x2]) H.1 rfl ?_
      replace H := H.2
      refine Ev.steps 6 (pc' := 48) (L' := [some (.ref 59), some (.int x1), some (.int (x2 + ((M 77) (x3 : Int32).toNatClampNeg))), some (.int x3)]) (st' := [.int 0, .int x3, .ref 77]) rfl ?_
      refine Ev.wr (a := 77) (g := (upd (M 77) (x3 : Int32).toNatClampNeg 0)) (i := x3) (n := 64) (pc' := 49) (L' := [some (.ref 59), some (.int x1), some (.int (x2 + ((M 77) (x3 : Int32).toNatClampNeg))), some (.int x3)]) (st' := []) (by decide) H.1 rfl ?_
      replace H := H.2
      refine Ev.steps 2 (pc' := 15) (L' := [some (.ref 59), some (.int x1), some (.int (x2 + ((M 77) (x3 : Int32).toNatClampNeg))), some (.int (x3 + 1))]) (st' := []) rfl ?_
      exact Ev.weak [some (.ref 59), some (.int x1), some (.int (x2 + ((M 77) (x3 : Int32).toNatClampNeg))), some (.int (x3 + 1))] (gw_leb_le ⟨rfl, rfl, rfl, rfl, trivial⟩) H
    · replace H := H.2 hc
      refine Ev.steps 2 (pc' := 15) (L' := [some (.ref 59), some (.int x1), some (.int x2), some (.int (x3 + 1))]) (st' := []) rfl ?_
      exact Ev.weak [some (.ref 59), some (.int x1), some (.int x2), some (.int (x3 + 1))] (gw_leb_le ⟨rfl, rfl, rfl, rfl, trivial⟩) H

