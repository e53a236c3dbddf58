/-! by program (wp.py): formulas that are enough -/
-- 124 GlassWires$Rods leastCost (LGlassWires$Wires;)I
set_option maxRecDepth 20000 in
theorem w124_0 {E : gw_N} {M : Mem} {res : Option Value × gw_H}  (H : (∃ (r1 : Int32), Rn 123 [.ref 14] (hs E M) (some (.int r1)) (hs E M) ∧ (∃ (M2 : Mem), Rn 125 [.ref 54, .ref 14] (hs E M) none (hs E M2) ∧ (∃ (M3 : Mem), Rn 313 [.ref 58, .int 1000000] (hs E M2) none (hs E M3) ∧ (inb 0 256 ∧ Ev 4 124 28 [some (.ref 54), none, some (.int r1), some (.int 0), none, none, none] [] (hs E (up M3 58 (upd (M3 58) (0 : Int32).toNatClampNeg 0))) res))))) : Ev 4 124 0 [some (.ref 54), some (.ref 14), none, none, none, none, none] [] (hs E M) res := by
  refine Ev.steps 1 (pc' := 1) (L' := [some (.ref 54), some (.ref 14), none, none, none, none, none]) (st' := [.ref 14]) rfl ?_
  obtain ⟨r1, hr1, H⟩ := H
  refine Ev.call (y := 123) (args := [.ref 14]) (rest := []) (r := (some (.int r1))) rfl hr1 ?_
  show Ev 4 124 4 [some (.ref 54), some (.ref 14), none, none, none, none, none] [.int r1] _ _
  refine Ev.steps 3 (pc' := 7) (L' := [some (.ref 54), some (.ref 14), some (.int r1), none, none, none, none]) (st' := [.ref 14, .ref 54]) rfl ?_
  obtain ⟨M2, hr2, H⟩ := H
  refine Ev.call (y := 125) (args := [.ref 54, .ref 14]) (rest := []) (r := none) rfl hr2 ?_
  show Ev 4 124 10 [some (.ref 54), some (.ref 14), some (.int r1), none, none, none, none] [] _ _
  refine Ev.steps 3 (pc' := 16) (L' := [some (.ref 54), some (.ref 14), some (.int r1), none, none, none, none]) (st' := [.int 1000000, .ref 58]) rfl ?_
  obtain ⟨M3, hr3, H⟩ := H
  refine Ev.call (y := 313) (args := [.ref 58, .int 1000000]) (rest := []) (r := none) rfl hr3 ?_
  show Ev 4 124 19 [some (.ref 54), some (.ref 14), some (.int r1), none, none, none, none] [] _ _
  refine Ev.steps 4 (pc' := 25) (L' := [some (.ref 54), some (.ref 14), some (.int r1), none, none, none, none]) (st' := [.int 0, .int 0, .ref 58]) rfl ?_
  refine Ev.wr (a := 58) (g := (upd (M3 58) (0 : Int32).toNatClampNeg 0)) (i := 0) (n := 256) (pc' := 26) (L' := [some (.ref 54), some (.ref 14), some (.int r1), none, none, none, none]) (st' := []) (by decide) H.1 rfl ?_
  replace H := H.2
  refine Ev.steps 2 (pc' := 28) (L' := [some (.ref 54), some (.ref 14), some (.int r1), some (.int 0), none, none, none]) (st' := []) rfl ?_
  exact Ev.weak [some (.ref 54), none, some (.int r1), some (.int 0), none, none, none] (gw_leb_le ⟨rfl, rfl, rfl, trivial⟩) H

set_option maxRecDepth 20000 in
theorem w124_28 {E : gw_N} {M : Mem} {res : Option Value × gw_H} {x2 : Int32} {x3 : Int32} (H : ((((M 54) 4) ≤ x3 → (inb x2 256 ∧ res = (some (.int ((M 58) (x2 : Int32).toNatClampNeg)), hs E M))) ∧ (¬ ((M 54) 4) ≤ x3 → (inb x3 8 ∧ Ev 4 124 55 [some (.ref 54), none, some (.int x2), some (.int x3), some (.int (F312 M ((M 56) (x3 : Int32).toNatClampNeg) 8)), some (.int 1), some (.int 0)] [] (hs E M) res)))) : Ev 4 124 28 [some (.ref 54), none, some (.int x2), some (.int x3), none, none, none] [] (hs E M) res := by
  refine Ev.steps 4 (pc' := if ((M 54) 4) ≤ x3 then 92 else 36) (L' := [some (.ref 54), none, some (.int x2), some (.int x3), none, none, none]) (st' := []) rfl ?_
  refine Ev_ite (fun hc => ?_) (fun hc => ?_)
  · replace H := H.1 hc
    refine Ev.steps 3 (pc' := 97) (L' := [some (.ref 54), none, some (.int x2), some (.int x3), none, none, none]) (st' := [.int x2, .ref 58]) rfl ?_
    refine Ev.rd (i := x2) (n := 256) (pc' := 98) (L' := [some (.ref 54), none, some (.int x2), some (.int x3), none, none, none]) (st' := [.int ((M 58) (x2 : Int32).toNatClampNeg)]) H.1 rfl ?_
    replace H := H.2
    subst H
    exact Ev.ret rfl
  · replace H := H.2 hc
    refine Ev.steps 3 (pc' := 41) (L' := [some (.ref 54), none, some (.int x2), some (.int x3), none, none, none]) (st' := [.int x3, .ref 56]) rfl ?_
    refine Ev.rd (i := x3) (n := 8) (pc' := 42) (L' := [some (.ref 54), none, some (.int x2), some (.int x3), none, none, none]) (st' := [.int ((M 56) (x3 : Int32).toNatClampNeg)]) H.1 rfl ?_
    replace H := H.2
    refine Ev.steps 1 (pc' := 44) (L' := [some (.ref 54), none, some (.int x2), some (.int x3), none, none, none]) (st' := [.int 8, .int ((M 56) (x3 : Int32).toNatClampNeg)]) rfl ?_
    refine Ev.call (y := 312) (args := [.int ((M 56) (x3 : Int32).toNatClampNeg), .int 8]) (rest := []) (r := some (.int (F312 M ((M 56) (x3 : Int32).toNatClampNeg) 8))) rfl (s312) ?_
    show Ev 4 124 47 [some (.ref 54), none, some (.int x2), some (.int x3), none, none, none] [.int (F312 M ((M 56) (x3 : Int32).toNatClampNeg) 8)] _ _
    refine Ev.steps 5 (pc' := 55) (L' := [some (.ref 54), none, some (.int x2), some (.int x3), some (.int (F312 M ((M 56) (x3 : Int32).toNatClampNeg) 8)), some (.int 1), some (.int 0)]) (st' := []) rfl ?_
    exact Ev.weak [some (.ref 54), none, some (.int x2), some (.int x3), some (.int (F312 M ((M 56) (x3 : Int32).toNatClampNeg) 8)), some (.int 1), some (.int 0)] (gw_leb_le ⟨rfl, rfl, rfl, rfl, rfl, rfl, trivial⟩) H

set_option maxRecDepth 20000 in
theorem w124_55 {E : gw_N} {M : Mem} {res : Option Value × gw_H} {x2 : Int32} {x3 : Int32} {x4 : Int32} {x5 : Int32} {x6 : Int32} (H : ((x5 = 0 → Ev 4 124 28 [some (.ref 54), none, some (.int x2), some (.int (x3 + 1)), none, none, none] [] (hs E M) res) ∧ (¬ x5 = 0 → ((x4 ≤ x6 → Ev 4 124 28 [some (.ref 54), none, some (.int x2), some (.int (x3 + 1)), none, none, none] [] (hs E M) res) ∧ (¬ x4 ≤ x6 → (inb x3 8 ∧ (∃ (r1 : Int32) (M1 : Mem), Rn 126 [.ref 54, .int ((M 55) (x3 : Int32).toNatClampNeg), .int x2] (hs E M) (some (.int r1)) (hs E M1) ∧ Ev 4 124 55 [some (.ref 54), none, some (.int x2), some (.int x3), some (.int x4), some (.int r1), some (.int (x6 + 1))] [] (hs E M1) res))))))) : Ev 4 124 55 [some (.ref 54), none, some (.int x2), some (.int x3), some (.int x4), some (.int x5), some (.int x6)] [] (hs E M) res := by
  refine Ev.steps 2 (pc' := if x5 = 0 then 86 else 60) (L' := [some (.ref 54), none, some (.int x2), some (.int x3), some (.int x4), some (.int x5), some (.int x6)]) (st' := []) rfl ?_
  refine Ev_ite (fun hc => ?_) (fun hc => ?_)
  · replace H := H.1 hc
    refine Ev.steps 2 (pc' := 28) (L' := [some (.ref 54), none, some (.int x2), some (.int (x3 + 1)), some (.int x4), some (.int x5), some (.int x6)]) (st' := []) rfl ?_
    exact Ev.weak [some (.ref 54), none, some (.int x2), some (.int (x3 + 1)), none, none, none] (gw_leb_le ⟨rfl, rfl, rfl, trivial⟩) H
  · replace H := H.2 hc
    refine Ev.steps 3 (pc' := if x4 ≤ x6 then 86 else 67) (L' := [some (.ref 54), none, some (.int x2), some (.int x3), some (.int x4), some (.int x5), some (.int x6)]) (st' := []) rfl ?_
    refine Ev_ite (fun hc => ?_) (fun hc => ?_)
    · replace H := H.1 hc
      refine Ev.steps 2 (pc' := 28) (L' := [some (.ref 54), none, some (.int x2), some (.int (x3 + 1)), some (.int x4), some (.int x5), some (.int x6)]) (st' := []) rfl ?_
      exact Ev.weak [some (.ref 54), none, some (.int x2), some (.int (x3 + 1)), none, none, none] (gw_leb_le ⟨rfl, rfl, rfl, trivial⟩) H
    · replace H := H.2 hc
      refine Ev.steps 4 (pc' := 73) (L' := [some (.ref 54), none, some (.int x2), some (.int x3), some (.int x4), some (.int x5), some (.int x6)]) (st' := [.int x3, .ref 55, .ref 54]) rfl ?_
      refine Ev.rd (i := x3) (n := 8) (pc' := 74) (L' := [some (.ref 54), none, some (.int x2), some (.int x3), some (.int x4), some (.int x5), some (.int x6)]) (st' := [.int ((M 55) (x3 : Int32).toNatClampNeg), .ref 54]) H.1 rfl ?_
      replace H := H.2
      refine Ev.steps 1 (pc' := 75) (L' := [some (.ref 54), none, some (.int x2), some (.int x3), some (.int x4), some (.int x5), some (.int x6)]) (st' := [.int x2, .int ((M 55) (x3 : Int32).toNatClampNeg), .ref 54]) rfl ?_
      obtain ⟨r1, M1, hr1, H⟩ := H
      refine Ev.call (y := 126) (args := [.ref 54, .int ((M 55) (x3 : Int32).toNatClampNeg), .int x2]) (rest := []) (r := (some (.int r1))) rfl hr1 ?_
      show Ev 4 124 78 [some (.ref 54), none, some (.int x2), some (.int x3), some (.int x4), some (.int x5), some (.int x6)] [.int r1] _ _
      refine Ev.steps 3 (pc' := 55) (L' := [some (.ref 54), none, some (.int x2), some (.int x3), some (.int x4), some (.int r1), some (.int (x6 + 1))]) (st' := []) rfl ?_
      exact Ev.weak [some (.ref 54), none, some (.int x2), some (.int x3), some (.int x4), some (.int r1), some (.int (x6 + 1))] (gw_leb_le ⟨rfl, rfl, rfl, rfl, rfl, rfl, trivial⟩) H

-- 132 GlassWires$Tension bowNow ()I
set_option maxRecDepth 20000 in
theorem w132_0 {E : gw_N} {M : Mem} {res : Option Value × gw_H}  (H : (∃ (r1 : Int32), Rn 30 [.ref 44] (hs E M) (some (.int r1)) (hs E M) ∧ (P130 M ∧ (P133 M r1 (F130 M) ∧ res = (some (.int (F133 M r1 (F130 M))), hs E M))))) : Ev 4 132 0 [some (.ref 53)] [] (hs E M) res := by
  refine Ev.steps 3 (pc' := 5) (L' := [some (.ref 53)]) (st' := [.ref 44, .ref 53]) rfl ?_
  obtain ⟨r1, hr1, H⟩ := H
  refine Ev.call (y := 30) (args := [.ref 44]) (rest := [.ref 53]) (r := (some (.int r1))) rfl hr1 ?_
  show Ev 4 132 8 [some (.ref 53)] [.int r1, .ref 53] _ _
  refine Ev.steps 1 (pc' := 9) (L' := [some (.ref 53)]) (st' := [.ref 53, .int r1, .ref 53]) rfl ?_
  refine Ev.call (y := 130) (args := [.ref 53]) (rest := [.int r1, .ref 53]) (r := some (.int (F130 M))) rfl (s130 H.1) ?_
  replace H := H.2
  show Ev 4 132 12 [some (.ref 53)] [.int (F130 M), .int r1, .ref 53] _ _
  refine Ev.call (y := 133) (args := [.ref 53, .int r1, .int (F130 M)]) (rest := []) (r := some (.int (F133 M r1 (F130 M)))) rfl (s133 H.1) ?_
  replace H := H.2
  show Ev 4 132 15 [some (.ref 53)] [.int (F133 M r1 (F130 M))] _ _
  subst H
  exact Ev.ret rfl

