/-! by program (wp.py): formulas that are enough -/
-- 90 GlassWires$Painter findNear ()V
set_option maxRecDepth 20000 in
theorem w90_0 {E : gw_N} {M : Mem} {res : Option Value × gw_H}  (H : (∃ (M1 : Mem), Rn 313 [.ref 38, .int 0] (hs E M) none (hs E M1) ∧ Ev 3 90 12 [some (.ref 36), some (.int 0), some (.int 0), none, none] [] (hs E M1) res)) : Ev 3 90 0 [some (.ref 36), none, none, none, none] [] (hs E M) res := by
  refine Ev.steps 3 (pc' := 5) (L' := [some (.ref 36), none, none, none, none]) (st' := [.int 0, .ref 38]) rfl ?_
  obtain ⟨M1, hr1, H⟩ := H
  refine Ev.call (y := 313) (args := [.ref 38, .int 0]) (rest := []) (r := none) rfl hr1 ?_
  show Ev 3 90 8 [some (.ref 36), none, none, none, none] [] _ _
  refine Ev.steps 4 (pc' := 12) (L' := [some (.ref 36), some (.int 0), some (.int 0), none, none]) (st' := []) rfl ?_
  exact Ev.weak [some (.ref 36), some (.int 0), some (.int 0), none, none] (gw_leb_le ⟨rfl, rfl, rfl, trivial⟩) H

set_option maxRecDepth 20000 in
theorem w90_12 {E : gw_N} {M : Mem} {res : Option Value × gw_H} {x1 : Int32} {x2 : Int32} (H : (((F40 M) ≤ x2 → Ev 3 90 58 [some (.ref 36), none, some (.int 0), none, none] [] (hs E M) res) ∧ (¬ (F40 M) ≤ x2 → (P5 M x2 ∧ (((F5 M x2) = 0 → Ev 3 90 12 [some (.ref 36), some (.int x1), some (.int (x2 + 1)), none, none] [] (hs E M) res) ∧ (¬ (F5 M x2) = 0 → ((10 ≤ x1 → Ev 3 90 12 [some (.ref 36), some (.int x1), some (.int (x2 + 1)), none, none] [] (hs E M) res) ∧ (¬ 10 ≤ x1 → (inb x2 64 ∧ Ev 3 90 12 [some (.ref 36), some (.int (x1 + 1)), some (.int (x2 + 1)), none, none] [] (hs E (up M 37 (upd (M 37) (x2 : Int32).toNatClampNeg x1))) res))))))))) : Ev 3 90 12 [some (.ref 36), some (.int x1), some (.int x2), none, none] [] (hs E M) res := by
  refine Ev.steps 3 (pc' := 17) (L' := [some (.ref 36), some (.int x1), some (.int x2), none, none]) (st' := [.ref 9, .int x2]) rfl ?_
  refine Ev.call (y := 40) (args := [.ref 9]) (rest := [.int x2]) (r := some (.int (F40 M))) rfl (s40) ?_
  show Ev 3 90 20 [some (.ref 36), some (.int x1), some (.int x2), none, none] [.int (F40 M), .int x2] _ _
  refine Ev.steps 1 (pc' := if (F40 M) ≤ x2 then 56 else 23) (L' := [some (.ref 36), some (.int x1), some (.int x2), none, none]) (st' := []) rfl ?_
  refine Ev_ite (fun hc => ?_) (fun hc => ?_)
  · replace H := H.1 hc
    refine Ev.steps 2 (pc' := 58) (L' := [some (.ref 36), some (.int x1), some (.int 0), none, none]) (st' := []) rfl ?_
    exact Ev.weak [some (.ref 36), none, some (.int 0), none, none] (gw_leb_le ⟨rfl, rfl, trivial⟩) H
  · replace H := H.2 hc
    refine Ev.steps 3 (pc' := 28) (L' := [some (.ref 36), some (.int x1), some (.int x2), none, none]) (st' := [.int x2, .ref 32]) rfl ?_
    refine Ev.call (y := 5) (args := [.ref 32, .int x2]) (rest := []) (r := some (.int (F5 M x2))) rfl (s5 H.1) ?_
    replace H := H.2
    show Ev 3 90 31 [some (.ref 36), some (.int x1), some (.int x2), none, none] [.int (F5 M x2)] _ _
    refine Ev.steps 1 (pc' := if (F5 M x2) = 0 then 50 else 34) (L' := [some (.ref 36), some (.int x1), some (.int x2), none, none]) (st' := []) rfl ?_
    refine Ev_ite (fun hc => ?_) (fun hc => ?_)
    · replace H := H.1 hc
      refine Ev.steps 2 (pc' := 12) (L' := [some (.ref 36), some (.int x1), some (.int (x2 + 1)), none, none]) (st' := []) rfl ?_
      exact Ev.weak [some (.ref 36), some (.int x1), some (.int (x2 + 1)), none, none] (gw_leb_le ⟨rfl, rfl, rfl, trivial⟩) H
    · replace H := H.2 hc
      refine Ev.steps 3 (pc' := if 10 ≤ x1 then 50 else 40) (L' := [some (.ref 36), some (.int x1), some (.int x2), none, none]) (st' := []) rfl ?_
      refine Ev_ite (fun hc => ?_) (fun hc => ?_)
      · replace H := H.1 hc
        refine Ev.steps 2 (pc' := 12) (L' := [some (.ref 36), some (.int x1), some (.int (x2 + 1)), none, none]) (st' := []) rfl ?_
        exact Ev.weak [some (.ref 36), some (.int x1), some (.int (x2 + 1)), none, none] (gw_leb_le ⟨rfl, rfl, rfl, trivial⟩) H
      · replace H := H.2 hc
        refine Ev.steps 4 (pc' := 46) (L' := [some (.ref 36), some (.int x1), some (.int x2), none, none]) (st' := [.int x1, .int x2, .ref 37]) rfl ?_
        refine Ev.wr (a := 37) (g := (upd (M 37) (x2 : Int32).toNatClampNeg x1)) (i := x2) (n := 64) (pc' := 47) (L' := [some (.ref 36), some (.int x1), some (.int x2), none, none]) (st' := []) (by decide) H.1 rfl ?_
        replace H := H.2
        refine Ev.steps 3 (pc' := 12) (L' := [some (.ref 36), some (.int (x1 + 1)), some (.int (x2 + 1)), none, none]) (st' := []) rfl ?_
        exact Ev.weak [some (.ref 36), some (.int (x1 + 1)), some (.int (x2 + 1)), none, none] (gw_leb_le ⟨rfl, rfl, rfl, trivial⟩) H

set_option maxRecDepth 20000 in
theorem w90_58 {E : gw_N} {M : Mem} {res : Option Value × gw_H} {x2 : Int32} (H : (((F40 M) ≤ x2 → res = (none, hs E M)) ∧ (¬ (F40 M) ≤ x2 → Ev 3 90 71 [some (.ref 36), none, some (.int x2), some (.int 0), none] [] (hs E M) res))) : Ev 3 90 58 [some (.ref 36), none, some (.int x2), none, none] [] (hs E M) res := by
  refine Ev.steps 3 (pc' := 63) (L' := [some (.ref 36), none, some (.int x2), none, none]) (st' := [.ref 9, .int x2]) rfl ?_
  refine Ev.call (y := 40) (args := [.ref 9]) (rest := [.int x2]) (r := some (.int (F40 M))) rfl (s40) ?_
  show Ev 3 90 66 [some (.ref 36), none, some (.int x2), none, none] [.int (F40 M), .int x2] _ _
  refine Ev.steps 1 (pc' := if (F40 M) ≤ x2 then 162 else 69) (L' := [some (.ref 36), none, some (.int x2), none, none]) (st' := []) rfl ?_
  refine Ev_ite (fun hc => ?_) (fun hc => ?_)
  · replace H := H.1 hc
    subst H
    exact Ev.ret rfl
  · replace H := H.2 hc
    refine Ev.steps 2 (pc' := 71) (L' := [some (.ref 36), none, some (.int x2), some (.int 0), none]) (st' := []) rfl ?_
    exact Ev.weak [some (.ref 36), none, some (.int x2), some (.int 0), none] (gw_leb_le ⟨rfl, rfl, rfl, trivial⟩) H

set_option maxRecDepth 20000 in
theorem w90_71 {E : gw_N} {M : Mem} {res : Option Value × gw_H} {x2 : Int32} {x3 : Int32} (H : ((4 ≤ x3 → Ev 3 90 58 [some (.ref 36), none, some (.int (x2 + 1)), none, none] [] (hs E M) res) ∧ (¬ 4 ≤ x3 → (P46 M x2 x3 ∧ (((F46 M x2 x3) = (-1) → Ev 3 90 71 [some (.ref 36), none, some (.int x2), some (.int (x3 + 1)), none] [] (hs E M) res) ∧ (¬ (F46 M x2 x3) = (-1) → (P4 M (F46 M x2 x3) ∧ (P4 M x2 ∧ (((F4 M (F46 M x2 x3)) = (F4 M x2) → Ev 3 90 71 [some (.ref 36), none, some (.int x2), some (.int (x3 + 1)), none] [] (hs E M) res) ∧ (¬ (F4 M (F46 M x2 x3)) = (F4 M x2) → (P4 M x2 ∧ (inb (F4 M x2) 64 ∧ (inb ((M 37) ((F4 M x2) : Int32).toNatClampNeg) 10 ∧ (P4 M (F46 M x2 x3) ∧ (inb (F4 M (F46 M x2 x3)) 64 ∧ (inb ((M 37) ((F4 M x2) : Int32).toNatClampNeg) 10 ∧ Ev 3 90 71 [some (.ref 36), none, some (.int x2), some (.int (x3 + 1)), none] [] (hs E (up M 38 (upd (M 38) (((M 37) ((F4 M x2) : Int32).toNatClampNeg) : Int32).toNatClampNeg (((M 38) (((M 37) ((F4 M x2) : Int32).toNatClampNeg) : Int32).toNatClampNeg) ||| (1 <<< (((M 37) ((F4 M (F46 M x2 x3)) : Int32).toNatClampNeg) &&& 31)))))) res)))))))))))))))) : Ev 3 90 71 [some (.ref 36), none, some (.int x2), some (.int x3), none] [] (hs E M) res := by
  refine Ev.steps 3 (pc' := if 4 ≤ x3 then 156 else 76) (L' := [some (.ref 36), none, some (.int x2), some (.int x3), none]) (st' := []) rfl ?_
  refine Ev_ite (fun hc => ?_) (fun hc => ?_)
  · replace H := H.1 hc
    refine Ev.steps 2 (pc' := 58) (L' := [some (.ref 36), none, some (.int (x2 + 1)), some (.int x3), none]) (st' := []) rfl ?_
    exact Ev.weak [some (.ref 36), none, some (.int (x2 + 1)), none, none] (gw_leb_le ⟨rfl, rfl, trivial⟩) H
  · replace H := H.2 hc
    refine Ev.steps 4 (pc' := 82) (L' := [some (.ref 36), none, some (.int x2), some (.int x3), none]) (st' := [.int x3, .int x2, .ref 9]) rfl ?_
    refine Ev.call (y := 46) (args := [.ref 9, .int x2, .int x3]) (rest := []) (r := some (.int (F46 M x2 x3))) rfl (s46 H.1) ?_
    replace H := H.2
    show Ev 3 90 85 [some (.ref 36), none, some (.int x2), some (.int x3), none] [.int (F46 M x2 x3)] _ _
    refine Ev.steps 4 (pc' := if (F46 M x2 x3) = (-1) then 150 else 93) (L' := [some (.ref 36), none, some (.int x2), some (.int x3), some (.int (F46 M x2 x3))]) (st' := []) rfl ?_
    refine Ev_ite (fun hc => ?_) (fun hc => ?_)
    · replace H := H.1 hc
      refine Ev.steps 2 (pc' := 71) (L' := [some (.ref 36), none, some (.int x2), some (.int (x3 + 1)), some (.int (F46 M x2 x3))]) (st' := []) rfl ?_
      exact Ev.weak [some (.ref 36), none, some (.int x2), some (.int (x3 + 1)), none] (gw_leb_le ⟨rfl, rfl, rfl, trivial⟩) H
    · replace H := H.2 hc
      refine Ev.steps 3 (pc' := 99) (L' := [some (.ref 36), none, some (.int x2), some (.int x3), some (.int (F46 M x2 x3))]) (st' := [.int (F46 M x2 x3), .ref 32]) rfl ?_
      refine Ev.call (y := 4) (args := [.ref 32, .int (F46 M x2 x3)]) (rest := []) (r := some (.int (F4 M (F46 M x2 x3)))) rfl (s4 H.1) ?_
      replace H := H.2
      show Ev 3 90 102 [some (.ref 36), none, some (.int x2), some (.int x3), some (.int (F46 M x2 x3))] [.int (F4 M (F46 M x2 x3))] _ _
      refine Ev.steps 3 (pc' := 107) (L' := [some (.ref 36), none, some (.int x2), some (.int x3), some (.int (F46 M x2 x3))]) (st' := [.int x2, .ref 32, .int (F4 M (F46 M x2 x3))]) rfl ?_
      refine Ev.call (y := 4) (args := [.ref 32, .int x2]) (rest := [.int (F4 M (F46 M x2 x3))]) (r := some (.int (F4 M x2))) rfl (s4 H.1) ?_
      replace H := H.2
      show Ev 3 90 110 [some (.ref 36), none, some (.int x2), some (.int x3), some (.int (F46 M x2 x3))] [.int (F4 M x2), .int (F4 M (F46 M x2 x3))] _ _
      refine Ev.steps 1 (pc' := if (F4 M (F46 M x2 x3)) = (F4 M x2) then 150 else 113) (L' := [some (.ref 36), none, some (.int x2), some (.int x3), some (.int (F46 M x2 x3))]) (st' := []) rfl ?_
      refine Ev_ite (fun hc => ?_) (fun hc => ?_)
      · replace H := H.1 hc
        refine Ev.steps 2 (pc' := 71) (L' := [some (.ref 36), none, some (.int x2), some (.int (x3 + 1)), some (.int (F46 M x2 x3))]) (st' := []) rfl ?_
        exact Ev.weak [some (.ref 36), none, some (.int x2), some (.int (x3 + 1)), none] (gw_leb_le ⟨rfl, rfl, rfl, trivial⟩) H
      · replace H := H.2 hc
        refine Ev.steps 7 (pc' := 126) (L' := [some (.ref 36), none, some (.int x2), some (.int x3), some (.int (F46 M x2 x3))]) (st' := [.int x2, .ref 32, .ref 37, .ref 38]) rfl ?_
        refine Ev.call (y := 4) (args := [.ref 32, .int x2]) (rest := [.ref 37, .ref 38]) (r := some (.int (F4 M x2))) rfl (s4 H.1) ?_
        replace H := H.2
        show Ev 3 90 129 [some (.ref 36), none, some (.int x2), some (.int x3), some (.int (F46 M x2 x3))] [.int (F4 M x2), .ref 37, .ref 38] _ _
        refine Ev.rd (i := (F4 M x2)) (n := 64) (pc' := 130) (L' := [some (.ref 36), none, some (.int x2), some (.int x3), some (.int (F46 M x2 x3))]) (st' := [.int ((M 37) ((F4 M x2) : Int32).toNatClampNeg), .ref 38]) H.1 rfl ?_
        replace H := H.2
        refine Ev.steps 1 (pc' := 131) (L' := [some (.ref 36), none, some (.int x2), some (.int x3), some (.int (F46 M x2 x3))]) (st' := [.int ((M 37) ((F4 M x2) : Int32).toNatClampNeg), .ref 38, .int ((M 37) ((F4 M x2) : Int32).toNatClampNeg), .ref 38]) rfl ?_
        refine Ev.rd (i := ((M 37) ((F4 M x2) : Int32).toNatClampNeg)) (n := 10) (pc' := 132) (L' := [some (.ref 36), none, some (.int x2), some (.int x3), some (.int (F46 M x2 x3))]) (st' := [.int ((M 38) (((M 37) ((F4 M x2) : Int32).toNatClampNeg) : Int32).toNatClampNeg), .int ((M 37) ((F4 M x2) : Int32).toNatClampNeg), .ref 38]) H.1 rfl ?_
        replace H := H.2
        refine Ev.steps 6 (pc' := 143) (L' := [some (.ref 36), none, some (.int x2), some (.int x3), some (.int (F46 M x2 x3))]) (st' := [.int (F46 M x2 x3), .ref 32, .ref 37, .int 1, .int ((M 38) (((M 37) ((F4 M x2) : Int32).toNatClampNeg) : Int32).toNatClampNeg), .int ((M 37) ((F4 M x2) : Int32).toNatClampNeg), .ref 38]) rfl ?_
        refine Ev.call (y := 4) (args := [.ref 32, .int (F46 M x2 x3)]) (rest := [.ref 37, .int 1, .int ((M 38) (((M 37) ((F4 M x2) : Int32).toNatClampNeg) : Int32).toNatClampNeg), .int ((M 37) ((F4 M x2) : Int32).toNatClampNeg), .ref 38]) (r := some (.int (F4 M (F46 M x2 x3)))) rfl (s4 H.1) ?_
        replace H := H.2
        show Ev 3 90 146 [some (.ref 36), none, some (.int x2), some (.int x3), some (.int (F46 M x2 x3))] [.int (F4 M (F46 M x2 x3)), .ref 37, .int 1, .int ((M 38) (((M 37) ((F4 M x2) : Int32).toNatClampNeg) : Int32).toNatClampNeg), .int ((M 37) ((F4 M x2) : Int32).toNatClampNeg), .ref 38] _ _
        refine Ev.rd (i := (F4 M (F46 M x2 x3))) (n := 64) (pc' := 147) (L' := [some (.ref 36), none, some (.int x2), some (.int x3), some (.int (F46 M x2 x3))]) (st' := [.int ((M 37) ((F4 M (F46 M x2 x3)) : Int32).toNatClampNeg), .int 1, .int ((M 38) (((M 37) ((F4 M x2) : Int32).toNatClampNeg) : Int32).toNatClampNeg), .int ((M 37) ((F4 M x2) : Int32).toNatClampNeg), .ref 38]) H.1 rfl ?_
        replace H := H.2
        refine Ev.steps 2 (pc' := 149) (L' := [some (.ref 36), none, some (.int x2), some (.int x3), some (.int (F46 M x2 x3))]) (st' := [.int (((M 38) (((M 37) ((F4 M x2) : Int32).toNatClampNeg) : Int32).toNatClampNeg) ||| (1 <<< (((M 37) ((F4 M (F46 M x2 x3)) : Int32).toNatClampNeg) &&& 31))), .int ((M 37) ((F4 M x2) : Int32).toNatClampNeg), .ref 38]) rfl ?_
        refine Ev.wr (a := 38) (g := (upd (M 38) (((M 37) ((F4 M x2) : Int32).toNatClampNeg) : Int32).toNatClampNeg (((M 38) (((M 37) ((F4 M x2) : Int32).toNatClampNeg) : Int32).toNatClampNeg) ||| (1 <<< (((M 37) ((F4 M (F46 M x2 x3)) : Int32).toNatClampNeg) &&& 31))))) (i := ((M 37) ((F4 M x2) : Int32).toNatClampNeg)) (n := 10) (pc' := 150) (L' := [some (.ref 36), none, some (.int x2), some (.int x3), some (.int (F46 M x2 x3))]) (st' := []) (by decide) H.1 rfl ?_
        replace H := H.2
        refine Ev.steps 2 (pc' := 71) (L' := [some (.ref 36), none, some (.int x2), some (.int (x3 + 1)), some (.int (F46 M x2 x3))]) (st' := []) rfl ?_
        exact Ev.weak [some (.ref 36), none, some (.int x2), some (.int (x3 + 1)), none] (gw_leb_le ⟨rfl, rfl, rfl, trivial⟩) H

-- 112 GlassWires$Plan make (I)V
set_option maxRecDepth 20000 in
theorem w112_0 {E : gw_N} {M : Mem} {res : Option Value × gw_H} {x1 : Int32} (H : Ev 3 112 9 [some (.ref 50), none, some (.int x1), some (.int 0), none] [] (hs E (up M 50 (upd (M 50) 3 0))) res) : Ev 3 112 0 [some (.ref 50), some (.int x1), none, none, none] [] (hs E M) res := by
  refine Ev.steps 2 (pc' := 2) (L' := [some (.ref 50), some (.int x1), none, none, none]) (st' := [.int 0, .ref 50]) rfl ?_
  refine Ev.mem (a := 50) (g := (upd (M 50) 3 0)) (pc' := 5) (L' := [some (.ref 50), some (.int x1), none, none, none]) (st' := []) (by decide) rfl ?_
  refine Ev.steps 4 (pc' := 9) (L' := [some (.ref 50), some (.int x1), some (.int x1), some (.int 0), none]) (st' := []) rfl ?_
  exact Ev.weak [some (.ref 50), none, some (.int x1), some (.int 0), none] (gw_leb_le ⟨rfl, rfl, rfl, trivial⟩) H

set_option maxRecDepth 20000 in
theorem w112_9 {E : gw_N} {M : Mem} {res : Option Value × gw_H} {x2 : Int32} {x3 : Int32} (H : ((8 ≤ x3 → res = (none, hs E M)) ∧ (¬ 8 ≤ x3 → ((x2 = 0 → res = (none, hs E M)) ∧ (¬ x2 = 0 → (∃ (r1 : Int32), Rn 113 [.ref 50, .int x2] (hs E M) (some (.int r1)) (hs E M) ∧ (P99 M r1 ∧ (∃ (r2 : Int32), Rn 108 [.ref 40, .int r1] (hs E M) (some (.int r2)) (hs E M) ∧ (∃ (M3 : Mem), Rn 114 [.ref 50, .int (F99 M r1), .int r2] (hs E M) none (hs E M3) ∧ Ev 3 112 9 [some (.ref 50), none, some (.int (x2 &&& ((1 <<< (r1 &&& 31)) ^^^ (-1)))), some (.int (x3 + 1)), none] [] (hs E M3) res))))))))) : Ev 3 112 9 [some (.ref 50), none, some (.int x2), some (.int x3), none] [] (hs E M) res := by
  refine Ev.steps 3 (pc' := if 8 ≤ x3 then 63 else 15) (L' := [some (.ref 50), none, some (.int x2), some (.int x3), none]) (st' := []) rfl ?_
  refine Ev_ite (fun hc => ?_) (fun hc => ?_)
  · replace H := H.1 hc
    subst H
    exact Ev.ret rfl
  · replace H := H.2 hc
    refine Ev.steps 2 (pc' := if x2 = 0 then 63 else 19) (L' := [some (.ref 50), none, some (.int x2), some (.int x3), none]) (st' := []) rfl ?_
    refine Ev_ite (fun hc => ?_) (fun hc => ?_)
    · replace H := H.1 hc
      subst H
      exact Ev.ret rfl
    · replace H := H.2 hc
      refine Ev.steps 2 (pc' := 21) (L' := [some (.ref 50), none, some (.int x2), some (.int x3), none]) (st' := [.int x2, .ref 50]) rfl ?_
      obtain ⟨r1, hr1, H⟩ := H
      refine Ev.call (y := 113) (args := [.ref 50, .int x2]) (rest := []) (r := (some (.int r1))) rfl hr1 ?_
      show Ev 3 112 24 [some (.ref 50), none, some (.int x2), some (.int x3), none] [.int r1] _ _
      refine Ev.steps 13 (pc' := 42) (L' := [some (.ref 50), none, some (.int (x2 &&& ((1 <<< (r1 &&& 31)) ^^^ (-1)))), some (.int x3), some (.int r1)]) (st' := [.int r1, .ref 40, .ref 50]) rfl ?_
      refine Ev.call (y := 99) (args := [.ref 40, .int r1]) (rest := [.ref 50]) (r := some (.int (F99 M r1))) rfl (s99 H.1) ?_
      replace H := H.2
      show Ev 3 112 45 [some (.ref 50), none, some (.int (x2 &&& ((1 <<< (r1 &&& 31)) ^^^ (-1)))), some (.int x3), some (.int r1)] [.int (F99 M r1), .ref 50] _ _
      refine Ev.steps 3 (pc' := 51) (L' := [some (.ref 50), none, some (.int (x2 &&& ((1 <<< (r1 &&& 31)) ^^^ (-1)))), some (.int x3), some (.int r1)]) (st' := [.int r1, .ref 40, .int (F99 M r1), .ref 50]) rfl ?_
      obtain ⟨r2, hr2, H⟩ := H
      refine Ev.call (y := 108) (args := [.ref 40, .int r1]) (rest := [.int (F99 M r1), .ref 50]) (r := (some (.int r2))) rfl hr2 ?_
      show Ev 3 112 54 [some (.ref 50), none, some (.int (x2 &&& ((1 <<< (r1 &&& 31)) ^^^ (-1)))), some (.int x3), some (.int r1)] [.int r2, .int (F99 M r1), .ref 50] _ _
      obtain ⟨M3, hr3, H⟩ := H
      refine Ev.call (y := 114) (args := [.ref 50, .int (F99 M r1), .int r2]) (rest := []) (r := none) rfl hr3 ?_
      show Ev 3 112 57 [some (.ref 50), none, some (.int (x2 &&& ((1 <<< (r1 &&& 31)) ^^^ (-1)))), some (.int x3), some (.int r1)] [] _ _
      refine Ev.steps 2 (pc' := 9) (L' := [some (.ref 50), none, some (.int (x2 &&& ((1 <<< (r1 &&& 31)) ^^^ (-1)))), some (.int (x3 + 1)), some (.int r1)]) (st' := []) rfl ?_
      exact Ev.weak [some (.ref 50), none, some (.int (x2 &&& ((1 <<< (r1 &&& 31)) ^^^ (-1)))), some (.int (x3 + 1)), none] (gw_leb_le ⟨rfl, rfl, rfl, trivial⟩) H

-- 123 GlassWires$Rods setOfAll (LGlassWires$Wires;)I
set_option maxRecDepth 20000 in
theorem w123_0 {E : gw_N} {M : Mem} {res : Option Value × gw_H}  (H : (∃ (r1 : Int32), Rn 155 [.ref 14] (hs E M) (some (.int r1)) (hs E M) ∧ res = (some (.int ((1 <<< ((F312 M r1 8) &&& 31)) - 1)), hs E M))) : Ev 3 123 0 [some (.ref 14)] [] (hs E M) res := by
  refine Ev.steps 2 (pc' := 2) (L' := [some (.ref 14)]) (st' := [.ref 14, .int 1]) rfl ?_
  obtain ⟨r1, hr1, H⟩ := H
  refine Ev.call (y := 155) (args := [.ref 14]) (rest := [.int 1]) (r := (some (.int r1))) rfl hr1 ?_
  show Ev 3 123 5 [some (.ref 14)] [.int r1, .int 1] _ _
  refine Ev.steps 1 (pc' := 7) (L' := [some (.ref 14)]) (st' := [.int 8, .int r1, .int 1]) rfl ?_
  refine Ev.call (y := 312) (args := [.int r1, .int 8]) (rest := [.int 1]) (r := some (.int (F312 M r1 8))) rfl (s312) ?_
  show Ev 3 123 10 [some (.ref 14)] [.int (F312 M r1 8), .int 1] _ _
  refine Ev.steps 3 (pc' := 13) (L' := [some (.ref 14)]) (st' := [.int ((1 <<< ((F312 M r1 8) &&& 31)) - 1)]) rfl ?_
  subst H
  exact Ev.ret rfl

-- 130 GlassWires$Tension backPull ()I
set_option maxRecDepth 20000 in
theorem w130_0 {E : gw_N} {M : Mem} {res : Option Value × gw_H}  (H : (P131 M ((M 53) 3) ((M 53) 4) ∧ res = (some (.int (F131 M ((M 53) 3) ((M 53) 4))), hs E M))) : Ev 3 130 0 [some (.ref 53)] [] (hs E M) res := by
  refine Ev.steps 5 (pc' := 9) (L' := [some (.ref 53)]) (st' := [.int ((M 53) 4), .int ((M 53) 3), .ref 53]) rfl ?_
  refine Ev.call (y := 131) (args := [.ref 53, .int ((M 53) 3), .int ((M 53) 4)]) (rest := []) (r := some (.int (F131 M ((M 53) 3) ((M 53) 4)))) rfl (s131 H.1) ?_
  replace H := H.2
  show Ev 3 130 12 [some (.ref 53)] [.int (F131 M ((M 53) 3) ((M 53) 4))] _ _
  subst H
  exact Ev.ret rfl

def F130 (M : Mem) : Int32 := (F131 M ((M 53) 3) ((M 53) 4))
def P130 (M : Mem) : Prop := (P131 M ((M 53) 3) ((M 53) 4))
theorem s130 {E : gw_N} {M : Mem} (H : P130 M) : Rn 130 [.ref 53] (hs E M) (some (.int (F130 M))) (hs E M) :=
  w130_0 (⟨H, rfl⟩)
-- 135 GlassWires$Tension straightThick (I)I
set_option maxRecDepth 20000 in
theorem w135_0 {E : gw_N} {M : Mem} {res : Option Value × gw_H} {x1 : Int32} (H : (∃ (r1 : Int32), Rn 30 [.ref 44] (hs E M) (some (.int r1)) (hs E M) ∧ (P133 M r1 0 ∧ Ev 3 135 24 [some (.ref 53), some (.int x1), some (.int r1), some (.int 0), some (.int (F310 M (F133 M r1 0))), some (.int 1), none] [] (hs E M) res))) : Ev 3 135 0 [some (.ref 53), some (.int x1), none, none, none, none, none] [] (hs E M) res := by
  refine Ev.steps 2 (pc' := 4) (L' := [some (.ref 53), some (.int x1), none, none, none, none, none]) (st' := [.ref 44]) rfl ?_
  obtain ⟨r1, hr1, H⟩ := H
  refine Ev.call (y := 30) (args := [.ref 44]) (rest := []) (r := (some (.int r1))) rfl hr1 ?_
  show Ev 3 135 7 [some (.ref 53), some (.int x1), none, none, none, none, none] [.int r1] _ _
  refine Ev.steps 6 (pc' := 13) (L' := [some (.ref 53), some (.int x1), some (.int r1), some (.int 0), none, none, none]) (st' := [.int 0, .int r1, .ref 53]) rfl ?_
  refine Ev.call (y := 133) (args := [.ref 53, .int r1, .int 0]) (rest := []) (r := some (.int (F133 M r1 0))) rfl (s133 H.1) ?_
  replace H := H.2
  show Ev 3 135 16 [some (.ref 53), some (.int x1), some (.int r1), some (.int 0), none, none, none] [.int (F133 M r1 0)] _ _
  refine Ev.call (y := 310) (args := [.int (F133 M r1 0)]) (rest := []) (r := some (.int (F310 M (F133 M r1 0)))) rfl (s310) ?_
  show Ev 3 135 19 [some (.ref 53), some (.int x1), some (.int r1), some (.int 0), none, none, none] [.int (F310 M (F133 M r1 0))] _ _
  refine Ev.steps 3 (pc' := 24) (L' := [some (.ref 53), some (.int x1), some (.int r1), some (.int 0), some (.int (F310 M (F133 M r1 0))), some (.int 1), none]) (st' := []) rfl ?_
  exact Ev.weak [some (.ref 53), some (.int x1), some (.int r1), some (.int 0), some (.int (F310 M (F133 M r1 0))), some (.int 1), none] (gw_leb_le ⟨rfl, rfl, rfl, rfl, rfl, rfl, trivial⟩) H

set_option maxRecDepth 20000 in
theorem w135_24 {E : gw_N} {M : Mem} {res : Option Value × gw_H} {x1 : Int32} {x2 : Int32} {x3 : Int32} {x4 : Int32} {x5 : Int32} (H : ((99 < x5 → res = (some (.int x3), hs E M)) ∧ (¬ 99 < x5 → (P131 M x1 x5 ∧ (P133 M x2 (F131 M x1 x5) ∧ ((x4 ≤ (F310 M (F133 M x2 (F131 M x1 x5))) → Ev 3 135 24 [some (.ref 53), some (.int x1), some (.int x2), some (.int x3), some (.int x4), some (.int (x5 + 1)), none] [] (hs E M) res) ∧ (¬ x4 ≤ (F310 M (F133 M x2 (F131 M x1 x5))) → Ev 3 135 24 [some (.ref 53), some (.int x1), some (.int x2), some (.int x5), some (.int (F310 M (F133 M x2 (F131 M x1 x5)))), some (.int (x5 + 1)), none] [] (hs E M) res))))))) : Ev 3 135 24 [some (.ref 53), some (.int x1), some (.int x2), some (.int x3), some (.int x4), some (.int x5), none] [] (hs E M) res := by
  refine Ev.steps 3 (pc' := if 99 < x5 then 68 else 31) (L' := [some (.ref 53), some (.int x1), some (.int x2), some (.int x3), some (.int x4), some (.int x5), none]) (st' := []) rfl ?_
  refine Ev_ite (fun hc => ?_) (fun hc => ?_)
  · replace H := H.1 hc
    refine Ev.steps 1 (pc' := 69) (L' := [some (.ref 53), some (.int x1), some (.int x2), some (.int x3), some (.int x4), some (.int x5), none]) (st' := [.int x3]) rfl ?_
    subst H
    exact Ev.ret rfl
  · replace H := H.2 hc
    refine Ev.steps 5 (pc' := 37) (L' := [some (.ref 53), some (.int x1), some (.int x2), some (.int x3), some (.int x4), some (.int x5), none]) (st' := [.int x5, .int x1, .ref 53, .int x2, .ref 53]) rfl ?_
    refine Ev.call (y := 131) (args := [.ref 53, .int x1, .int x5]) (rest := [.int x2, .ref 53]) (r := some (.int (F131 M x1 x5))) rfl (s131 H.1) ?_
    replace H := H.2
    show Ev 3 135 40 [some (.ref 53), some (.int x1), some (.int x2), some (.int x3), some (.int x4), some (.int x5), none] [.int (F131 M x1 x5), .int x2, .ref 53] _ _
    refine Ev.call (y := 133) (args := [.ref 53, .int x2, .int (F131 M x1 x5)]) (rest := []) (r := some (.int (F133 M x2 (F131 M x1 x5)))) rfl (s133 H.1) ?_
    replace H := H.2
    show Ev 3 135 43 [some (.ref 53), some (.int x1), some (.int x2), some (.int x3), some (.int x4), some (.int x5), none] [.int (F133 M x2 (F131 M x1 x5))] _ _
    refine Ev.call (y := 310) (args := [.int (F133 M x2 (F131 M x1 x5))]) (rest := []) (r := some (.int (F310 M (F133 M x2 (F131 M x1 x5))))) rfl (s310) ?_
    show Ev 3 135 46 [some (.ref 53), some (.int x1), some (.int x2), some (.int x3), some (.int x4), some (.int x5), none] [.int (F310 M (F133 M x2 (F131 M x1 x5)))] _ _
    refine Ev.steps 4 (pc' := if x4 ≤ (F310 M (F133 M x2 (F131 M x1 x5))) then 62 else 55) (L' := [some (.ref 53), some (.int x1), some (.int x2), some (.int x3), some (.int x4), some (.int x5), some (.int (F310 M (F133 M x2 (F131 M x1 x5))))]) (st' := []) rfl ?_
    refine Ev_ite (fun hc => ?_) (fun hc => ?_)
    · replace H := H.1 hc
      refine Ev.steps 2 (pc' := 24) (L' := [some (.ref 53), some (.int x1), some (.int x2), some (.int x3), some (.int x4), some (.int (x5 + 1)), some (.int (F310 M (F133 M x2 (F131 M x1 x5))))]) (st' := []) rfl ?_
      exact Ev.weak [some (.ref 53), some (.int x1), some (.int x2), some (.int x3), some (.int x4), some (.int (x5 + 1)), none] (gw_leb_le ⟨rfl, rfl, rfl, rfl, rfl, rfl, trivial⟩) H
    · replace H := H.2 hc
      refine Ev.steps 6 (pc' := 24) (L' := [some (.ref 53), some (.int x1), some (.int x2), some (.int x5), some (.int (F310 M (F133 M x2 (F131 M x1 x5)))), some (.int (x5 + 1)), some (.int (F310 M (F133 M x2 (F131 M x1 x5))))]) (st' := []) rfl ?_
      exact Ev.weak [some (.ref 53), some (.int x1), some (.int x2), some (.int x5), some (.int (F310 M (F133 M x2 (F131 M x1 x5)))), some (.int (x5 + 1)), none] (gw_leb_le ⟨rfl, rfl, rfl, rfl, rfl, rfl, trivial⟩) H

-- 164 GlassWires good (II)I
set_option maxRecDepth 20000 in
theorem w164_0 {E : gw_N} {M : Mem} {res : Option Value × gw_H} {x1 : Int32} {x2 : Int32} (H : (((F41 M x1 x2) = 0 → res = (some (.int (-101)), hs E M)) ∧ (¬ (F41 M x1 x2) = 0 → (∃ (r1 : Int32), Rn 84 [.ref 12, .ref 9, .int x1, .int x2] (hs E M) (some (.int r1)) (hs E M) ∧ res = (some (.int r1), hs E M))))) : Ev 3 164 0 [some (.ref 8), some (.int x1), some (.int x2)] [] (hs E M) res := by
  refine Ev.steps 4 (pc' := 6) (L' := [some (.ref 8), some (.int x1), some (.int x2)]) (st' := [.int x2, .int x1, .ref 9]) rfl ?_
  refine Ev.call (y := 41) (args := [.ref 9, .int x1, .int x2]) (rest := []) (r := some (.int (F41 M x1 x2))) rfl (s41) ?_
  show Ev 3 164 9 [some (.ref 8), some (.int x1), some (.int x2)] [.int (F41 M x1 x2)] _ _
  refine Ev.steps 1 (pc' := if (F41 M x1 x2) = 0 then 28 else 12) (L' := [some (.ref 8), some (.int x1), some (.int x2)]) (st' := []) rfl ?_
  refine Ev_ite (fun hc => ?_) (fun hc => ?_)
  · replace H := H.1 hc
    refine Ev.steps 1 (pc' := 30) (L' := [some (.ref 8), some (.int x1), some (.int x2)]) (st' := [.int (-101)]) rfl ?_
    subst H
    exact Ev.ret rfl
  · replace H := H.2 hc
    refine Ev.steps 6 (pc' := 22) (L' := [some (.ref 8), some (.int x1), some (.int x2)]) (st' := [.int x2, .int x1, .ref 9, .ref 12]) rfl ?_
    obtain ⟨r1, hr1, H⟩ := H
    refine Ev.call (y := 84) (args := [.ref 12, .ref 9, .int x1, .int x2]) (rest := []) (r := (some (.int r1))) rfl hr1 ?_
    show Ev 3 164 25 [some (.ref 8), some (.int x1), some (.int x2)] [.int r1] _ _
    refine Ev.steps 1 (pc' := 30) (L' := [some (.ref 8), some (.int x1), some (.int x2)]) (st' := [.int r1]) rfl ?_
    subst H
    exact Ev.ret rfl

-- 168 GlassWires about (II)I
set_option maxRecDepth 20000 in
theorem w168_0 {E : gw_N} {M : Mem} {res : Option Value × gw_H} {x1 : Int32} {x2 : Int32} (H : (((F144 M x1) = 0 → res = (some (.int (-101)), hs E M)) ∧ (¬ (F144 M x1) = 0 → ((x2 = 0 → (P149 M x1 ∧ res = (some (.int (F149 M x1)), hs E M))) ∧ (x2 = 1 → (P150 M x1 ∧ res = (some (.int (F150 M x1)), hs E M))) ∧ (x2 = 2 → (P152 M x1 ∧ res = (some (.int (F206 M (F152 M x1))), hs E M))) ∧ (x2 = 3 → (P151 M x1 ∧ res = (some (.int (F151 M x1)), hs E M))) ∧ (x2 = 4 → (P64 M x1 ∧ res = (some (.int (F206 M (F64 M x1))), hs E M))) ∧ (¬ x2 = 0 → ¬ x2 = 1 → ¬ x2 = 2 → ¬ x2 = 3 → ¬ x2 = 4 → res = (some (.int (-102)), hs E M)))))) : Ev 3 168 0 [some (.ref 8), some (.int x1), some (.int x2)] [] (hs E M) res := by
  refine Ev.steps 3 (pc' := 5) (L' := [some (.ref 8), some (.int x1), some (.int x2)]) (st' := [.int x1, .ref 14]) rfl ?_
  refine Ev.call (y := 144) (args := [.ref 14, .int x1]) (rest := []) (r := some (.int (F144 M x1))) rfl (s144) ?_
  show Ev 3 168 8 [some (.ref 8), some (.int x1), some (.int x2)] [.int (F144 M x1)] _ _
  refine Ev.steps 1 (pc' := if (F144 M x1) = 0 then 11 else 14) (L' := [some (.ref 8), some (.int x1), some (.int x2)]) (st' := []) rfl ?_
  refine Ev_ite (fun hc => ?_) (fun hc => ?_)
  · replace H := H.1 hc
    refine Ev.steps 1 (pc' := 13) (L' := [some (.ref 8), some (.int x1), some (.int x2)]) (st' := [.int (-101)]) rfl ?_
    subst H
    exact Ev.ret rfl
  · replace H := H.2 hc
    refine Ev.steps 1 (pc' := 15) (L' := [some (.ref 8), some (.int x1), some (.int x2)]) (st' := [.int x2]) rfl ?_
    by_cases hw0 : x2 = 0
    · replace H := H.1 hw0
      refine Ev.sw (p := gw_tsw 15 84 0 4 #[33, 42, 51, 63, 72] x2) (pc' := 48) (L' := [some (.ref 8), some (.int x1), some (.int x2)]) (st' := []) rfl (by rw [hw0]; decide +kernel) ?_
      refine Ev.steps 3 (pc' := 53) (L' := [some (.ref 8), some (.int x1), some (.int x2)]) (st' := [.int x1, .ref 14]) rfl ?_
      refine Ev.call (y := 149) (args := [.ref 14, .int x1]) (rest := []) (r := some (.int (F149 M x1))) rfl (s149 H.1) ?_
      replace H := H.2
      show Ev 3 168 56 [some (.ref 8), some (.int x1), some (.int x2)] [.int (F149 M x1)] _ _
      subst H
      exact Ev.ret rfl
    replace H := H.2
    by_cases hw1 : x2 = 1
    · replace H := H.1 hw1
      refine Ev.sw (p := gw_tsw 15 84 0 4 #[33, 42, 51, 63, 72] x2) (pc' := 57) (L' := [some (.ref 8), some (.int x1), some (.int x2)]) (st' := []) rfl (by rw [hw1]; decide +kernel) ?_
      refine Ev.steps 3 (pc' := 62) (L' := [some (.ref 8), some (.int x1), some (.int x2)]) (st' := [.int x1, .ref 14]) rfl ?_
      refine Ev.call (y := 150) (args := [.ref 14, .int x1]) (rest := []) (r := some (.int (F150 M x1))) rfl (s150 H.1) ?_
      replace H := H.2
      show Ev 3 168 65 [some (.ref 8), some (.int x1), some (.int x2)] [.int (F150 M x1)] _ _
      subst H
      exact Ev.ret rfl
    replace H := H.2
    by_cases hw2 : x2 = 2
    · replace H := H.1 hw2
      refine Ev.sw (p := gw_tsw 15 84 0 4 #[33, 42, 51, 63, 72] x2) (pc' := 66) (L' := [some (.ref 8), some (.int x1), some (.int x2)]) (st' := []) rfl (by rw [hw2]; decide +kernel) ?_
      refine Ev.steps 3 (pc' := 71) (L' := [some (.ref 8), some (.int x1), some (.int x2)]) (st' := [.int x1, .ref 14]) rfl ?_
      refine Ev.call (y := 152) (args := [.ref 14, .int x1]) (rest := []) (r := some (.int (F152 M x1))) rfl (s152 H.1) ?_
      replace H := H.2
      show Ev 3 168 74 [some (.ref 8), some (.int x1), some (.int x2)] [.int (F152 M x1)] _ _
      refine Ev.call (y := 206) (args := [.int (F152 M x1)]) (rest := []) (r := some (.int (F206 M (F152 M x1)))) rfl (s206) ?_
      show Ev 3 168 77 [some (.ref 8), some (.int x1), some (.int x2)] [.int (F206 M (F152 M x1))] _ _
      subst H
      exact Ev.ret rfl
    replace H := H.2
    by_cases hw3 : x2 = 3
    · replace H := H.1 hw3
      refine Ev.sw (p := gw_tsw 15 84 0 4 #[33, 42, 51, 63, 72] x2) (pc' := 78) (L' := [some (.ref 8), some (.int x1), some (.int x2)]) (st' := []) rfl (by rw [hw3]; decide +kernel) ?_
      refine Ev.steps 3 (pc' := 83) (L' := [some (.ref 8), some (.int x1), some (.int x2)]) (st' := [.int x1, .ref 14]) rfl ?_
      refine Ev.call (y := 151) (args := [.ref 14, .int x1]) (rest := []) (r := some (.int (F151 M x1))) rfl (s151 H.1) ?_
      replace H := H.2
      show Ev 3 168 86 [some (.ref 8), some (.int x1), some (.int x2)] [.int (F151 M x1)] _ _
      subst H
      exact Ev.ret rfl
    replace H := H.2
    by_cases hw4 : x2 = 4
    · replace H := H.1 hw4
      refine Ev.sw (p := gw_tsw 15 84 0 4 #[33, 42, 51, 63, 72] x2) (pc' := 87) (L' := [some (.ref 8), some (.int x1), some (.int x2)]) (st' := []) rfl (by rw [hw4]; decide +kernel) ?_
      refine Ev.steps 3 (pc' := 92) (L' := [some (.ref 8), some (.int x1), some (.int x2)]) (st' := [.int x1, .ref 22]) rfl ?_
      refine Ev.call (y := 64) (args := [.ref 22, .int x1]) (rest := []) (r := some (.int (F64 M x1))) rfl (s64 H.1) ?_
      replace H := H.2
      show Ev 3 168 95 [some (.ref 8), some (.int x1), some (.int x2)] [.int (F64 M x1)] _ _
      refine Ev.call (y := 206) (args := [.int (F64 M x1)]) (rest := []) (r := some (.int (F206 M (F64 M x1)))) rfl (s206) ?_
      show Ev 3 168 98 [some (.ref 8), some (.int x1), some (.int x2)] [.int (F206 M (F64 M x1))] _ _
      subst H
      exact Ev.ret rfl
    replace H := H.2
    replace H := H hw0 hw1 hw2 hw3 hw4
    refine Ev.sw (p := gw_tsw 15 84 0 4 #[33, 42, 51, 63, 72] x2) (pc' := 99) (L' := [some (.ref 8), some (.int x1), some (.int x2)]) (st' := []) rfl (gw_ts_df (by decide +kernel) (by
      intro k h1 h2
      have h3 : k = 0 ∨ k = 1 ∨ k = 2 ∨ k = 3 ∨ k = 4 := by omega
      rcases h3 with rfl | rfl | rfl | rfl | rfl
      · exact fun h => hw0 (h.trans (by decide +kernel))
      · exact fun h => hw1 (h.trans (by decide +kernel))
      · exact fun h => hw2 (h.trans (by decide +kernel))
      · exact fun h => hw3 (h.trans (by decide +kernel))
      · exact fun h => hw4 (h.trans (by decide +kernel)))) ?_
    refine Ev.steps 1 (pc' := 101) (L' := [some (.ref 8), some (.int x1), some (.int x2)]) (st' := [.int (-102)]) rfl ?_
    subst H
    exact Ev.ret rfl

def F168 (M : Mem) (x1 : Int32) (x2 : Int32) : Int32 := (if (F144 M x1) = 0 then (-101) else (if x2 = 0 then (F149 M x1) else (if x2 = 1 then (F150 M x1) else (if x2 = 2 then (F206 M (F152 M x1)) else (if x2 = 3 then (F151 M x1) else (if x2 = 4 then (F206 M (F64 M x1)) else (-102)))))))
def P168 (M : Mem) (x1 : Int32) (x2 : Int32) : Prop := (((F144 M x1) = 0 → True) ∧ (¬ (F144 M x1) = 0 → ((x2 = 0 → (P149 M x1)) ∧ (x2 = 1 → (P150 M x1)) ∧ (x2 = 2 → (P152 M x1)) ∧ (x2 = 3 → (P151 M x1)) ∧ (x2 = 4 → (P64 M x1)) ∧ (¬ x2 = 0 → ¬ x2 = 1 → ¬ x2 = 2 → ¬ x2 = 3 → ¬ x2 = 4 → True))))
theorem s168 {E : gw_N} {M : Mem} {x1 : Int32} {x2 : Int32} (H : P168 M x1 x2) : Rn 168 [.ref 8, .int x1, .int x2] (hs E M) (some (.int (F168 M x1 x2))) (hs E M) :=
  w168_0 (⟨fun h0 => gw_reteq (if_pos h0), fun h0 => ⟨fun h1 => ⟨((H.2 h0).1 h1), gw_reteq ((if_neg h0).trans (if_pos h1))⟩, fun h2 => ⟨((H.2 h0).2.1 h2), gw_reteq (((if_neg h0).trans (if_neg (fun k => absurd (h2.symm.trans k) (by decide)))).trans (if_pos h2))⟩, fun h3 => ⟨((H.2 h0).2.2.1 h3), gw_reteq ((((if_neg h0).trans (if_neg (fun k => absurd (h3.symm.trans k) (by decide)))).trans (if_neg (fun k => absurd (h3.symm.trans k) (by decide)))).trans (if_pos h3))⟩, fun h4 => ⟨((H.2 h0).2.2.2.1 h4), gw_reteq (((((if_neg h0).trans (if_neg (fun k => absurd (h4.symm.trans k) (by decide)))).trans (if_neg (fun k => absurd (h4.symm.trans k) (by decide)))).trans (if_neg (fun k => absurd (h4.symm.trans k) (by decide)))).trans (if_pos h4))⟩, fun h5 => ⟨((H.2 h0).2.2.2.2.1 h5), gw_reteq ((((((if_neg h0).trans (if_neg (fun k => absurd (h5.symm.trans k) (by decide)))).trans (if_neg (fun k => absurd (h5.symm.trans k) (by decide)))).trans (if_neg (fun k => absurd (h5.symm.trans k) (by decide)))).trans (if_neg (fun k => absurd (h5.symm.trans k) (by decide)))).trans (if_pos h5))⟩, fun h1 h2 h3 h4 h5 => gw_reteq ((((((if_neg h0).trans (if_neg h1)).trans (if_neg h2)).trans (if_neg h3)).trans (if_neg h4)).trans (if_neg h5))⟩⟩)
-- 170 GlassWires covers (III)I
set_option maxRecDepth 20000 in
theorem w170_0 {E : gw_N} {M : Mem} {res : Option Value × gw_H} {x1 : Int32} {x2 : Int32} {x3 : Int32} (H : (((F44 M x1 x2 x3) = 0 → res = (some (.int (-101)), hs E M)) ∧ (¬ (F44 M x1 x2 x3) = 0 → (P66 M (F51 M x1 x2 x3) ∧ res = (some (.int (F66 M (F51 M x1 x2 x3))), hs E M))))) : Ev 3 170 0 [some (.ref 8), some (.int x1), some (.int x2), some (.int x3)] [] (hs E M) res := by
  refine Ev.steps 5 (pc' := 7) (L' := [some (.ref 8), some (.int x1), some (.int x2), some (.int x3)]) (st' := [.int x3, .int x2, .int x1, .ref 9]) rfl ?_
  refine Ev.call (y := 44) (args := [.ref 9, .int x1, .int x2, .int x3]) (rest := []) (r := some (.int (F44 M x1 x2 x3))) rfl (s44) ?_
  show Ev 3 170 10 [some (.ref 8), some (.int x1), some (.int x2), some (.int x3)] [.int (F44 M x1 x2 x3)] _ _
  refine Ev.steps 1 (pc' := if (F44 M x1 x2 x3) = 0 then 29 else 13) (L' := [some (.ref 8), some (.int x1), some (.int x2), some (.int x3)]) (st' := []) rfl ?_
  refine Ev_ite (fun hc => ?_) (fun hc => ?_)
  · replace H := H.1 hc
    refine Ev.steps 1 (pc' := 31) (L' := [some (.ref 8), some (.int x1), some (.int x2), some (.int x3)]) (st' := [.int (-101)]) rfl ?_
    subst H
    exact Ev.ret rfl
  · replace H := H.2 hc
    refine Ev.steps 5 (pc' := 20) (L' := [some (.ref 8), some (.int x1), some (.int x2), some (.int x3)]) (st' := [.int x3, .int x2, .int x1, .ref 22]) rfl ?_
    refine Ev.call (y := 51) (args := [.int x1, .int x2, .int x3]) (rest := [.ref 22]) (r := some (.int (F51 M x1 x2 x3))) rfl (s51) ?_
    show Ev 3 170 23 [some (.ref 8), some (.int x1), some (.int x2), some (.int x3)] [.int (F51 M x1 x2 x3), .ref 22] _ _
    refine Ev.call (y := 66) (args := [.ref 22, .int (F51 M x1 x2 x3)]) (rest := []) (r := some (.int (F66 M (F51 M x1 x2 x3)))) rfl (s66 H.1) ?_
    replace H := H.2
    show Ev 3 170 26 [some (.ref 8), some (.int x1), some (.int x2), some (.int x3)] [.int (F66 M (F51 M x1 x2 x3))] _ _
    refine Ev.steps 1 (pc' := 31) (L' := [some (.ref 8), some (.int x1), some (.int x2), some (.int x3)]) (st' := [.int (F66 M (F51 M x1 x2 x3))]) rfl ?_
    subst H
    exact Ev.ret rfl

def F170 (M : Mem) (x1 : Int32) (x2 : Int32) (x3 : Int32) : Int32 := (if (F44 M x1 x2 x3) = 0 then (-101) else (F66 M (F51 M x1 x2 x3)))
def P170 (M : Mem) (x1 : Int32) (x2 : Int32) (x3 : Int32) : Prop := (((F44 M x1 x2 x3) = 0 → True) ∧ (¬ (F44 M x1 x2 x3) = 0 → (P66 M (F51 M x1 x2 x3))))
theorem s170 {E : gw_N} {M : Mem} {x1 : Int32} {x2 : Int32} {x3 : Int32} (H : P170 M x1 x2 x3) : Rn 170 [.ref 8, .int x1, .int x2, .int x3] (hs E M) (some (.int (F170 M x1 x2 x3))) (hs E M) :=
  w170_0 (⟨fun h0 => gw_reteq (if_pos h0), fun h0 => ⟨(H.2 h0), gw_reteq (if_neg h0)⟩⟩)
-- 180 GlassWires fill (III)I
set_option maxRecDepth 20000 in
theorem w180_0 {E : gw_N} {M : Mem} {res : Option Value × gw_H} {x1 : Int32} {x2 : Int32} {x3 : Int32} (H : (P5 M x1 ∧ (((F5 M x1) = 0 → res = (some (.int (-101)), hs E M)) ∧ (¬ (F5 M x1) = 0 → (((F94 M x2) = 0 → res = (some (.int (-101)), hs E M)) ∧ (¬ (F94 M x2) = 0 → ((x3 < 1 → res = (some (.int (-102)), hs E M)) ∧ (¬ x3 < 1 → ((x3 ≤ 99 → (∃ (r1 : Int32), Rn 16 [.ref 44, .int x1] (hs E M) (some (.int r1)) (hs E M) ∧ ((r1 = 0 → res = (some (.int (-104)), hs E M)) ∧ (¬ r1 = 0 → (∃ (r2 : Int32) (M2 : Mem), Rn 17 [.ref 44, .int x1, .int x2, .int x3] (hs E M) (some (.int r2)) (hs E M2) ∧ res = (some (.int r2), hs E M2)))))) ∧ (¬ x3 ≤ 99 → res = (some (.int (-102)), hs E M))))))))))) : Ev 3 180 0 [some (.ref 8), some (.int x1), some (.int x2), some (.int x3)] [] (hs E M) res := by
  refine Ev.steps 3 (pc' := 5) (L' := [some (.ref 8), some (.int x1), some (.int x2), some (.int x3)]) (st' := [.int x1, .ref 32]) rfl ?_
  refine Ev.call (y := 5) (args := [.ref 32, .int x1]) (rest := []) (r := some (.int (F5 M x1))) rfl (s5 H.1) ?_
  replace H := H.2
  show Ev 3 180 8 [some (.ref 8), some (.int x1), some (.int x2), some (.int x3)] [.int (F5 M x1)] _ _
  refine Ev.steps 1 (pc' := if (F5 M x1) = 0 then 18 else 11) (L' := [some (.ref 8), some (.int x1), some (.int x2), some (.int x3)]) (st' := []) rfl ?_
  refine Ev_ite (fun hc => ?_) (fun hc => ?_)
  · replace H := H.1 hc
    refine Ev.steps 1 (pc' := 20) (L' := [some (.ref 8), some (.int x1), some (.int x2), some (.int x3)]) (st' := [.int (-101)]) rfl ?_
    subst H
    exact Ev.ret rfl
  · replace H := H.2 hc
    refine Ev.steps 1 (pc' := 12) (L' := [some (.ref 8), some (.int x1), some (.int x2), some (.int x3)]) (st' := [.int x2]) rfl ?_
    refine Ev.call (y := 94) (args := [.int x2]) (rest := []) (r := some (.int (F94 M x2))) rfl (s94) ?_
    show Ev 3 180 15 [some (.ref 8), some (.int x1), some (.int x2), some (.int x3)] [.int (F94 M x2)] _ _
    refine Ev.steps 1 (pc' := if (F94 M x2) = 0 then 18 else 21) (L' := [some (.ref 8), some (.int x1), some (.int x2), some (.int x3)]) (st' := []) rfl ?_
    refine Ev_ite (fun hc => ?_) (fun hc => ?_)
    · replace H := H.1 hc
      refine Ev.steps 1 (pc' := 20) (L' := [some (.ref 8), some (.int x1), some (.int x2), some (.int x3)]) (st' := [.int (-101)]) rfl ?_
      subst H
      exact Ev.ret rfl
    · replace H := H.2 hc
      refine Ev.steps 3 (pc' := if x3 < 1 then 32 else 26) (L' := [some (.ref 8), some (.int x1), some (.int x2), some (.int x3)]) (st' := []) rfl ?_
      refine Ev_ite (fun hc => ?_) (fun hc => ?_)
      · replace H := H.1 hc
        refine Ev.steps 1 (pc' := 34) (L' := [some (.ref 8), some (.int x1), some (.int x2), some (.int x3)]) (st' := [.int (-102)]) rfl ?_
        subst H
        exact Ev.ret rfl
      · replace H := H.2 hc
        refine Ev.steps 3 (pc' := if x3 ≤ 99 then 35 else 32) (L' := [some (.ref 8), some (.int x1), some (.int x2), some (.int x3)]) (st' := []) rfl ?_
        refine Ev_ite (fun hc => ?_) (fun hc => ?_)
        · replace H := H.1 hc
          refine Ev.steps 3 (pc' := 40) (L' := [some (.ref 8), some (.int x1), some (.int x2), some (.int x3)]) (st' := [.int x1, .ref 44]) rfl ?_
          obtain ⟨r1, hr1, H⟩ := H
          refine Ev.call (y := 16) (args := [.ref 44, .int x1]) (rest := []) (r := (some (.int r1))) rfl hr1 ?_
          show Ev 3 180 43 [some (.ref 8), some (.int x1), some (.int x2), some (.int x3)] [.int r1] _ _
          refine Ev.steps 1 (pc' := if r1 = 0 then 59 else 46) (L' := [some (.ref 8), some (.int x1), some (.int x2), some (.int x3)]) (st' := []) rfl ?_
          refine Ev_ite (fun hc => ?_) (fun hc => ?_)
          · replace H := H.1 hc
            refine Ev.steps 1 (pc' := 61) (L' := [some (.ref 8), some (.int x1), some (.int x2), some (.int x3)]) (st' := [.int (-104)]) rfl ?_
            subst H
            exact Ev.ret rfl
          · replace H := H.2 hc
            refine Ev.steps 5 (pc' := 53) (L' := [some (.ref 8), some (.int x1), some (.int x2), some (.int x3)]) (st' := [.int x3, .int x2, .int x1, .ref 44]) rfl ?_
            obtain ⟨r2, M2, hr2, H⟩ := H
            refine Ev.call (y := 17) (args := [.ref 44, .int x1, .int x2, .int x3]) (rest := []) (r := (some (.int r2))) rfl hr2 ?_
            show Ev 3 180 56 [some (.ref 8), some (.int x1), some (.int x2), some (.int x3)] [.int r2] _ _
            refine Ev.steps 1 (pc' := 61) (L' := [some (.ref 8), some (.int x1), some (.int x2), some (.int x3)]) (st' := [.int r2]) rfl ?_
            subst H
            exact Ev.ret rfl
        · replace H := H.2 hc
          refine Ev.steps 1 (pc' := 34) (L' := [some (.ref 8), some (.int x1), some (.int x2), some (.int x3)]) (st' := [.int (-102)]) rfl ?_
          subst H
          exact Ev.ret rfl

-- 181 GlassWires empty (I)I
set_option maxRecDepth 20000 in
theorem w181_0 {E : gw_N} {M : Mem} {res : Option Value × gw_H} {x1 : Int32} (H : (P5 M x1 ∧ (((F5 M x1) = 0 → res = (some (.int (-101)), hs E M)) ∧ (¬ (F5 M x1) = 0 → (∃ (r1 : Int32) (M1 : Mem), Rn 18 [.ref 44, .int x1] (hs E M) (some (.int r1)) (hs E M1) ∧ res = (some (.int r1), hs E M1)))))) : Ev 3 181 0 [some (.ref 8), some (.int x1)] [] (hs E M) res := by
  refine Ev.steps 3 (pc' := 5) (L' := [some (.ref 8), some (.int x1)]) (st' := [.int x1, .ref 32]) rfl ?_
  refine Ev.call (y := 5) (args := [.ref 32, .int x1]) (rest := []) (r := some (.int (F5 M x1))) rfl (s5 H.1) ?_
  replace H := H.2
  show Ev 3 181 8 [some (.ref 8), some (.int x1)] [.int (F5 M x1)] _ _
  refine Ev.steps 1 (pc' := if (F5 M x1) = 0 then 22 else 11) (L' := [some (.ref 8), some (.int x1)]) (st' := []) rfl ?_
  refine Ev_ite (fun hc => ?_) (fun hc => ?_)
  · replace H := H.1 hc
    refine Ev.steps 1 (pc' := 24) (L' := [some (.ref 8), some (.int x1)]) (st' := [.int (-101)]) rfl ?_
    subst H
    exact Ev.ret rfl
  · replace H := H.2 hc
    refine Ev.steps 3 (pc' := 16) (L' := [some (.ref 8), some (.int x1)]) (st' := [.int x1, .ref 44]) rfl ?_
    obtain ⟨r1, M1, hr1, H⟩ := H
    refine Ev.call (y := 18) (args := [.ref 44, .int x1]) (rest := []) (r := (some (.int r1))) rfl hr1 ?_
    show Ev 3 181 19 [some (.ref 8), some (.int x1)] [.int r1] _ _
    refine Ev.steps 1 (pc' := 24) (L' := [some (.ref 8), some (.int x1)]) (st' := [.int r1]) rfl ?_
    subst H
    exact Ev.ret rfl

-- 187 GlassWires fills (I)I
set_option maxRecDepth 20000 in
theorem w187_0 {E : gw_N} {M : Mem} {res : Option Value × gw_H} {x1 : Int32} (H : (((F94 M x1) = 0 → res = (some (.int (-101)), hs E M)) ∧ (¬ (F94 M x1) = 0 → (∃ (r1 : Int32), Rn 108 [.ref 40, .int x1] (hs E M) (some (.int r1)) (hs E M) ∧ res = (some (.int r1), hs E M))))) : Ev 3 187 0 [some (.ref 8), some (.int x1)] [] (hs E M) res := by
  refine Ev.steps 1 (pc' := 1) (L' := [some (.ref 8), some (.int x1)]) (st' := [.int x1]) rfl ?_
  refine Ev.call (y := 94) (args := [.int x1]) (rest := []) (r := some (.int (F94 M x1))) rfl (s94) ?_
  show Ev 3 187 4 [some (.ref 8), some (.int x1)] [.int (F94 M x1)] _ _
  refine Ev.steps 1 (pc' := if (F94 M x1) = 0 then 18 else 7) (L' := [some (.ref 8), some (.int x1)]) (st' := []) rfl ?_
  refine Ev_ite (fun hc => ?_) (fun hc => ?_)
  · replace H := H.1 hc
    refine Ev.steps 1 (pc' := 20) (L' := [some (.ref 8), some (.int x1)]) (st' := [.int (-101)]) rfl ?_
    subst H
    exact Ev.ret rfl
  · replace H := H.2 hc
    refine Ev.steps 3 (pc' := 12) (L' := [some (.ref 8), some (.int x1)]) (st' := [.int x1, .ref 40]) rfl ?_
    obtain ⟨r1, hr1, H⟩ := H
    refine Ev.call (y := 108) (args := [.ref 40, .int x1]) (rest := []) (r := (some (.int r1))) rfl hr1 ?_
    show Ev 3 187 15 [some (.ref 8), some (.int x1)] [.int r1] _ _
    refine Ev.steps 1 (pc' := 20) (L' := [some (.ref 8), some (.int x1)]) (st' := [.int r1]) rfl ?_
    subst H
    exact Ev.ret rfl

-- 201 GlassWires count (I)I
set_option maxRecDepth 20000 in
theorem w201_0 {E : gw_N} {M : Mem} {res : Option Value × gw_H} {x1 : Int32} (H : ((x1 = 0 → res = (some (.int (F40 M)), hs E M)) ∧ (x1 = 1 → res = (some (.int (F143 M)), hs E M)) ∧ (x1 = 2 → (∃ (r1 : Int32), Rn 155 [.ref 14] (hs E M) (some (.int r1)) (hs E M) ∧ res = (some (.int r1), hs E M))) ∧ (x1 = 3 → res = (some (.int (F78 M)), hs E M)) ∧ (x1 = 4 → res = (some (.int (F119 M)), hs E M)) ∧ (x1 = 5 → (∃ (r2 : Int32), Rn 12 [.ref 44] (hs E M) (some (.int r2)) (hs E M) ∧ res = (some (.int r2), hs E M))) ∧ (¬ x1 = 0 → ¬ x1 = 1 → ¬ x1 = 2 → ¬ x1 = 3 → ¬ x1 = 4 → ¬ x1 = 5 → res = (some (.int (-102)), hs E M)))) : Ev 3 201 0 [some (.ref 8), some (.int x1)] [] (hs E M) res := by
  refine Ev.steps 1 (pc' := 1) (L' := [some (.ref 8), some (.int x1)]) (st' := [.int x1]) rfl ?_
  by_cases hw0 : x1 = 0
  · replace H := H.1 hw0
    refine Ev.sw (p := gw_tsw 1 87 0 5 #[39, 47, 55, 63, 71, 79] x1) (pc' := 40) (L' := [some (.ref 8), some (.int x1)]) (st' := []) rfl (by rw [hw0]; decide +kernel) ?_
    refine Ev.steps 2 (pc' := 44) (L' := [some (.ref 8), some (.int x1)]) (st' := [.ref 9]) rfl ?_
    refine Ev.call (y := 40) (args := [.ref 9]) (rest := []) (r := some (.int (F40 M))) rfl (s40) ?_
    show Ev 3 201 47 [some (.ref 8), some (.int x1)] [.int (F40 M)] _ _
    subst H
    exact Ev.ret rfl
  replace H := H.2
  by_cases hw1 : x1 = 1
  · replace H := H.1 hw1
    refine Ev.sw (p := gw_tsw 1 87 0 5 #[39, 47, 55, 63, 71, 79] x1) (pc' := 48) (L' := [some (.ref 8), some (.int x1)]) (st' := []) rfl (by rw [hw1]; decide +kernel) ?_
    refine Ev.steps 2 (pc' := 52) (L' := [some (.ref 8), some (.int x1)]) (st' := [.ref 14]) rfl ?_
    refine Ev.call (y := 143) (args := [.ref 14]) (rest := []) (r := some (.int (F143 M))) rfl (s143) ?_
    show Ev 3 201 55 [some (.ref 8), some (.int x1)] [.int (F143 M)] _ _
    subst H
    exact Ev.ret rfl
  replace H := H.2
  by_cases hw2 : x1 = 2
  · replace H := H.1 hw2
    refine Ev.sw (p := gw_tsw 1 87 0 5 #[39, 47, 55, 63, 71, 79] x1) (pc' := 56) (L' := [some (.ref 8), some (.int x1)]) (st' := []) rfl (by rw [hw2]; decide +kernel) ?_
    refine Ev.steps 2 (pc' := 60) (L' := [some (.ref 8), some (.int x1)]) (st' := [.ref 14]) rfl ?_
    obtain ⟨r1, hr1, H⟩ := H
    refine Ev.call (y := 155) (args := [.ref 14]) (rest := []) (r := (some (.int r1))) rfl hr1 ?_
    show Ev 3 201 63 [some (.ref 8), some (.int x1)] [.int r1] _ _
    subst H
    exact Ev.ret rfl
  replace H := H.2
  by_cases hw3 : x1 = 3
  · replace H := H.1 hw3
    refine Ev.sw (p := gw_tsw 1 87 0 5 #[39, 47, 55, 63, 71, 79] x1) (pc' := 64) (L' := [some (.ref 8), some (.int x1)]) (st' := []) rfl (by rw [hw3]; decide +kernel) ?_
    refine Ev.steps 2 (pc' := 68) (L' := [some (.ref 8), some (.int x1)]) (st' := [.ref 12]) rfl ?_
    refine Ev.call (y := 78) (args := [.ref 12]) (rest := []) (r := some (.int (F78 M))) rfl (s78) ?_
    show Ev 3 201 71 [some (.ref 8), some (.int x1)] [.int (F78 M)] _ _
    subst H
    exact Ev.ret rfl
  replace H := H.2
  by_cases hw4 : x1 = 4
  · replace H := H.1 hw4
    refine Ev.sw (p := gw_tsw 1 87 0 5 #[39, 47, 55, 63, 71, 79] x1) (pc' := 72) (L' := [some (.ref 8), some (.int x1)]) (st' := []) rfl (by rw [hw4]; decide +kernel) ?_
    refine Ev.steps 2 (pc' := 76) (L' := [some (.ref 8), some (.int x1)]) (st' := [.ref 54]) rfl ?_
    refine Ev.call (y := 119) (args := [.ref 54]) (rest := []) (r := some (.int (F119 M))) rfl (s119) ?_
    show Ev 3 201 79 [some (.ref 8), some (.int x1)] [.int (F119 M)] _ _
    subst H
    exact Ev.ret rfl
  replace H := H.2
  by_cases hw5 : x1 = 5
  · replace H := H.1 hw5
    refine Ev.sw (p := gw_tsw 1 87 0 5 #[39, 47, 55, 63, 71, 79] x1) (pc' := 80) (L' := [some (.ref 8), some (.int x1)]) (st' := []) rfl (by rw [hw5]; decide +kernel) ?_
    refine Ev.steps 2 (pc' := 84) (L' := [some (.ref 8), some (.int x1)]) (st' := [.ref 44]) rfl ?_
    obtain ⟨r2, hr2, H⟩ := H
    refine Ev.call (y := 12) (args := [.ref 44]) (rest := []) (r := (some (.int r2))) rfl hr2 ?_
    show Ev 3 201 87 [some (.ref 8), some (.int x1)] [.int r2] _ _
    subst H
    exact Ev.ret rfl
  replace H := H.2
  replace H := H hw0 hw1 hw2 hw3 hw4 hw5
  refine Ev.sw (p := gw_tsw 1 87 0 5 #[39, 47, 55, 63, 71, 79] x1) (pc' := 88) (L' := [some (.ref 8), some (.int x1)]) (st' := []) rfl (gw_ts_df (by decide +kernel) (by
      intro k h1 h2
      have h3 : k = 0 ∨ k = 1 ∨ k = 2 ∨ k = 3 ∨ k = 4 ∨ k = 5 := by omega
      rcases h3 with rfl | rfl | rfl | rfl | rfl | rfl
      · exact fun h => hw0 (h.trans (by decide +kernel))
      · exact fun h => hw1 (h.trans (by decide +kernel))
      · exact fun h => hw2 (h.trans (by decide +kernel))
      · exact fun h => hw3 (h.trans (by decide +kernel))
      · exact fun h => hw4 (h.trans (by decide +kernel))
      · exact fun h => hw5 (h.trans (by decide +kernel)))) ?_
  refine Ev.steps 1 (pc' := 90) (L' := [some (.ref 8), some (.int x1)]) (st' := [.int (-102)]) rfl ?_
  subst H
  exact Ev.ret rfl

-- 202 GlassWires digest ()J
set_option maxRecDepth 20000 in
theorem w202_0 {E : gw_N} {M : Mem} {res : Option Value × gw_H}  (H : (∃ (r1 : Int64), Rn 159 [.ref 14, .long (F55 M 233)] (hs E M) (some (.long r1)) (hs E M) ∧ (∃ (r2 : Int64), Rn 109 [.ref 40, .long r1] (hs E M) (some (.long r2)) (hs E M) ∧ (∃ (r3 : Int64), Rn 34 [.ref 44, .long r2] (hs E M) (some (.long r3)) (hs E M) ∧ (∃ (r4 : Int64), Rn 127 [.ref 54, .long (F207 M (F140 M r3) (Int32.toInt64 (F10 M)))] (hs E M) (some (.long r4)) (hs E M) ∧ (∃ (r5 : Int64), Rn 86 [.ref 12, .long r4] (hs E M) (some (.long r5)) (hs E M) ∧ res = (some (.long r5), hs E M))))))) : Ev 3 202 0 [some (.ref 8), none, none] [] (hs E M) res := by
  refine Ev.steps 3 (pc' := 7) (L' := [some (.ref 8), none, none]) (st' := [.long 233, .ref 9]) rfl ?_
  refine Ev.call (y := 55) (args := [.ref 9, .long 233]) (rest := []) (r := some (.long (F55 M 233))) rfl (s55) ?_
  show Ev 3 202 10 [some (.ref 8), none, none] [.long (F55 M 233)] _ _
  refine Ev.steps 4 (pc' := 16) (L' := [some (.ref 8), some (.long (F55 M 233)), none]) (st' := [.long (F55 M 233), .ref 14]) rfl ?_
  obtain ⟨r1, hr1, H⟩ := H
  refine Ev.call (y := 159) (args := [.ref 14, .long (F55 M 233)]) (rest := []) (r := (some (.long r1))) rfl hr1 ?_
  show Ev 3 202 19 [some (.ref 8), some (.long (F55 M 233)), none] [.long r1] _ _
  refine Ev.steps 4 (pc' := 25) (L' := [some (.ref 8), some (.long r1), none]) (st' := [.long r1, .ref 40]) rfl ?_
  obtain ⟨r2, hr2, H⟩ := H
  refine Ev.call (y := 109) (args := [.ref 40, .long r1]) (rest := []) (r := (some (.long r2))) rfl hr2 ?_
  show Ev 3 202 28 [some (.ref 8), some (.long r1), none] [.long r2] _ _
  refine Ev.steps 4 (pc' := 34) (L' := [some (.ref 8), some (.long r2), none]) (st' := [.long r2, .ref 44]) rfl ?_
  obtain ⟨r3, hr3, H⟩ := H
  refine Ev.call (y := 34) (args := [.ref 44, .long r2]) (rest := []) (r := (some (.long r3))) rfl hr3 ?_
  show Ev 3 202 37 [some (.ref 8), some (.long r2), none] [.long r3] _ _
  refine Ev.steps 4 (pc' := 43) (L' := [some (.ref 8), some (.long r3), none]) (st' := [.long r3, .ref 53]) rfl ?_
  refine Ev.call (y := 140) (args := [.ref 53, .long r3]) (rest := []) (r := some (.long (F140 M r3))) rfl (s140) ?_
  show Ev 3 202 46 [some (.ref 8), some (.long r3), none] [.long (F140 M r3)] _ _
  refine Ev.steps 4 (pc' := 52) (L' := [some (.ref 8), some (.long (F140 M r3)), none]) (st' := [.ref 44, .long (F140 M r3)]) rfl ?_
  refine Ev.call (y := 10) (args := [.ref 44]) (rest := [.long (F140 M r3)]) (r := some (.int (F10 M))) rfl (s10) ?_
  show Ev 3 202 55 [some (.ref 8), some (.long (F140 M r3)), none] [.int (F10 M), .long (F140 M r3)] _ _
  refine Ev.steps 1 (pc' := 56) (L' := [some (.ref 8), some (.long (F140 M r3)), none]) (st' := [.long (Int32.toInt64 (F10 M)), .long (F140 M r3)]) rfl ?_
  refine Ev.call (y := 207) (args := [.long (F140 M r3), .long (Int32.toInt64 (F10 M))]) (rest := []) (r := some (.long (F207 M (F140 M r3) (Int32.toInt64 (F10 M))))) rfl (s207) ?_
  show Ev 3 202 59 [some (.ref 8), some (.long (F140 M r3)), none] [.long (F207 M (F140 M r3) (Int32.toInt64 (F10 M)))] _ _
  refine Ev.steps 4 (pc' := 65) (L' := [some (.ref 8), some (.long (F207 M (F140 M r3) (Int32.toInt64 (F10 M)))), none]) (st' := [.long (F207 M (F140 M r3) (Int32.toInt64 (F10 M))), .ref 54]) rfl ?_
  obtain ⟨r4, hr4, H⟩ := H
  refine Ev.call (y := 127) (args := [.ref 54, .long (F207 M (F140 M r3) (Int32.toInt64 (F10 M)))]) (rest := []) (r := (some (.long r4))) rfl hr4 ?_
  show Ev 3 202 68 [some (.ref 8), some (.long (F207 M (F140 M r3) (Int32.toInt64 (F10 M)))), none] [.long r4] _ _
  refine Ev.steps 4 (pc' := 74) (L' := [some (.ref 8), some (.long r4), none]) (st' := [.long r4, .ref 12]) rfl ?_
  obtain ⟨r5, hr5, H⟩ := H
  refine Ev.call (y := 86) (args := [.ref 12, .long r4]) (rest := []) (r := (some (.long r5))) rfl hr5 ?_
  show Ev 3 202 77 [some (.ref 8), some (.long r4), none] [.long r5] _ _
  subst H
  exact Ev.ret rfl

-- 217 GlassWiresModel goodOf (II)I
set_option maxRecDepth 20000 in
theorem w217_0 {E : gw_N} {M : Mem} {res : Option Value × gw_H} {x1 : Int32} {x2 : Int32} (H : Ev 3 217 11 [some (.ref 59), none, none, some (.int 0), some (.int x1), some (.int x2), some (.int 1), none, none] [] (hs E M) res) : Ev 3 217 0 [some (.ref 59), some (.int x1), some (.int x2), none, none, none, none, none, none] [] (hs E M) res := by
  refine Ev.steps 8 (pc' := 11) (L' := [some (.ref 59), some (.int x1), some (.int x2), some (.int 0), some (.int x1), some (.int x2), some (.int 1), none, none]) (st' := []) rfl ?_
  exact Ev.weak [some (.ref 59), none, none, some (.int 0), some (.int x1), some (.int x2), some (.int 1), none, none] (gw_leb_le ⟨rfl, rfl, rfl, rfl, rfl, trivial⟩) H

set_option maxRecDepth 20000 in
theorem w217_11 {E : gw_N} {M : Mem} {res : Option Value × gw_H} {x3 : Int32} {x4 : Int32} {x5 : Int32} {x6 : Int32} (H : ((x6 = 0 → res = (some (.int x3), hs E M)) ∧ (¬ x6 = 0 → ((((M 59) 3) ≤ x3 → res = (some (.int x3), hs E M)) ∧ (¬ ((M 59) 3) ≤ x3 → ((24 ≤ x3 → res = (some (.int x3), hs E M)) ∧ (¬ 24 ≤ x3 → (inb x3 40 ∧ (inb x3 40 ∧ (((F215 M ((M 60) (x3 : Int32).toNatClampNeg)) = 0 → (((F216 M ((M 60) (x3 : Int32).toNatClampNeg)) = 0 → Ev 3 217 11 [some (.ref 59), none, none, some (.int x3), some (.int x4), some (.int x5), some (.int 0), none, none] [] (hs E M) res) ∧ (¬ (F216 M ((M 60) (x3 : Int32).toNatClampNeg)) = 0 → (((F214 M (x4 + (F215 M ((M 60) (x3 : Int32).toNatClampNeg))) (x5 + (F216 M ((M 60) (x3 : Int32).toNatClampNeg)))) = 0 → Ev 3 217 11 [some (.ref 59), none, none, some (.int x3), some (.int x4), some (.int x5), some (.int 0), none, none] [] (hs E M) res) ∧ (¬ (F214 M (x4 + (F215 M ((M 60) (x3 : Int32).toNatClampNeg))) (x5 + (F216 M ((M 60) (x3 : Int32).toNatClampNeg)))) = 0 → Ev 3 217 11 [some (.ref 59), none, none, some (.int (x3 + 1)), some (.int (x4 + (F215 M ((M 60) (x3 : Int32).toNatClampNeg)))), some (.int (x5 + (F216 M ((M 60) (x3 : Int32).toNatClampNeg)))), some (.int 1), none, none] [] (hs E M) res))))) ∧ (¬ (F215 M ((M 60) (x3 : Int32).toNatClampNeg)) = 0 → (((F214 M (x4 + (F215 M ((M 60) (x3 : Int32).toNatClampNeg))) (x5 + (F216 M ((M 60) (x3 : Int32).toNatClampNeg)))) = 0 → Ev 3 217 11 [some (.ref 59), none, none, some (.int x3), some (.int x4), some (.int x5), some (.int 0), none, none] [] (hs E M) res) ∧ (¬ (F214 M (x4 + (F215 M ((M 60) (x3 : Int32).toNatClampNeg))) (x5 + (F216 M ((M 60) (x3 : Int32).toNatClampNeg)))) = 0 → Ev 3 217 11 [some (.ref 59), none, none, some (.int (x3 + 1)), some (.int (x4 + (F215 M ((M 60) (x3 : Int32).toNatClampNeg)))), some (.int (x5 + (F216 M ((M 60) (x3 : Int32).toNatClampNeg)))), some (.int 1), none, none] [] (hs E M) res))))))))))))) : Ev 3 217 11 [some (.ref 59), none, none, some (.int x3), some (.int x4), some (.int x5), some (.int x6), none, none] [] (hs E M) res := by
  refine Ev.steps 2 (pc' := if x6 = 0 then 111 else 16) (L' := [some (.ref 59), none, none, some (.int x3), some (.int x4), some (.int x5), some (.int x6), none, none]) (st' := []) rfl ?_
  refine Ev_ite (fun hc => ?_) (fun hc => ?_)
  · replace H := H.1 hc
    refine Ev.steps 1 (pc' := 112) (L' := [some (.ref 59), none, none, some (.int x3), some (.int x4), some (.int x5), some (.int x6), none, none]) (st' := [.int x3]) rfl ?_
    subst H
    exact Ev.ret rfl
  · replace H := H.2 hc
    refine Ev.steps 4 (pc' := if ((M 59) 3) ≤ x3 then 111 else 24) (L' := [some (.ref 59), none, none, some (.int x3), some (.int x4), some (.int x5), some (.int x6), none, none]) (st' := []) rfl ?_
    refine Ev_ite (fun hc => ?_) (fun hc => ?_)
    · replace H := H.1 hc
      refine Ev.steps 1 (pc' := 112) (L' := [some (.ref 59), none, none, some (.int x3), some (.int x4), some (.int x5), some (.int x6), none, none]) (st' := [.int x3]) rfl ?_
      subst H
      exact Ev.ret rfl
    · replace H := H.2 hc
      refine Ev.steps 3 (pc' := if 24 ≤ x3 then 111 else 30) (L' := [some (.ref 59), none, none, some (.int x3), some (.int x4), some (.int x5), some (.int x6), none, none]) (st' := []) rfl ?_
      refine Ev_ite (fun hc => ?_) (fun hc => ?_)
      · replace H := H.1 hc
        refine Ev.steps 1 (pc' := 112) (L' := [some (.ref 59), none, none, some (.int x3), some (.int x4), some (.int x5), some (.int x6), none, none]) (st' := [.int x3]) rfl ?_
        subst H
        exact Ev.ret rfl
      · replace H := H.2 hc
        refine Ev.steps 3 (pc' := 35) (L' := [some (.ref 59), none, none, some (.int x3), some (.int x4), some (.int x5), some (.int x6), none, none]) (st' := [.int x3, .ref 60]) rfl ?_
        refine Ev.rd (i := x3) (n := 40) (pc' := 36) (L' := [some (.ref 59), none, none, some (.int x3), some (.int x4), some (.int x5), some (.int x6), none, none]) (st' := [.int ((M 60) (x3 : Int32).toNatClampNeg)]) H.1 rfl ?_
        replace H := H.2
        refine Ev.call (y := 215) (args := [.int ((M 60) (x3 : Int32).toNatClampNeg)]) (rest := []) (r := some (.int (F215 M ((M 60) (x3 : Int32).toNatClampNeg)))) rfl (s215) ?_
        show Ev 3 217 39 [some (.ref 59), none, none, some (.int x3), some (.int x4), some (.int x5), some (.int x6), none, none] [.int (F215 M ((M 60) (x3 : Int32).toNatClampNeg))] _ _
        refine Ev.steps 4 (pc' := 46) (L' := [some (.ref 59), none, none, some (.int x3), some (.int x4), some (.int x5), some (.int x6), some (.int (F215 M ((M 60) (x3 : Int32).toNatClampNeg))), none]) (st' := [.int x3, .ref 60]) rfl ?_
        refine Ev.rd (i := x3) (n := 40) (pc' := 47) (L' := [some (.ref 59), none, none, some (.int x3), some (.int x4), some (.int x5), some (.int x6), some (.int (F215 M ((M 60) (x3 : Int32).toNatClampNeg))), none]) (st' := [.int ((M 60) (x3 : Int32).toNatClampNeg)]) H.1 rfl ?_
        replace H := H.2
        refine Ev.call (y := 216) (args := [.int ((M 60) (x3 : Int32).toNatClampNeg)]) (rest := []) (r := some (.int (F216 M ((M 60) (x3 : Int32).toNatClampNeg)))) rfl (s216) ?_
        show Ev 3 217 50 [some (.ref 59), none, none, some (.int x3), some (.int x4), some (.int x5), some (.int x6), some (.int (F215 M ((M 60) (x3 : Int32).toNatClampNeg))), none] [.int (F216 M ((M 60) (x3 : Int32).toNatClampNeg))] _ _
        refine Ev.steps 3 (pc' := if (F215 M ((M 60) (x3 : Int32).toNatClampNeg)) = 0 then 57 else 62) (L' := [some (.ref 59), none, none, some (.int x3), some (.int x4), some (.int x5), some (.int x6), some (.int (F215 M ((M 60) (x3 : Int32).toNatClampNeg))), some (.int (F216 M ((M 60) (x3 : Int32).toNatClampNeg)))]) (st' := []) rfl ?_
        refine Ev_ite (fun hc => ?_) (fun hc => ?_)
        · replace H := H.1 hc
          refine Ev.steps 2 (pc' := if (F216 M ((M 60) (x3 : Int32).toNatClampNeg)) = 0 then 83 else 62) (L' := [some (.ref 59), none, none, some (.int x3), some (.int x4), some (.int x5), some (.int x6), some (.int (F215 M ((M 60) (x3 : Int32).toNatClampNeg))), some (.int (F216 M ((M 60) (x3 : Int32).toNatClampNeg)))]) (st' := []) rfl ?_
          refine Ev_ite (fun hc => ?_) (fun hc => ?_)
          · replace H := H.1 hc
            refine Ev.steps 5 (pc' := 11) (L' := [some (.ref 59), none, none, some (.int x3), some (.int x4), some (.int x5), some (.int 0), some (.int (F215 M ((M 60) (x3 : Int32).toNatClampNeg))), some (.int (F216 M ((M 60) (x3 : Int32).toNatClampNeg)))]) (st' := []) rfl ?_
            exact Ev.weak [some (.ref 59), none, none, some (.int x3), some (.int x4), some (.int x5), some (.int 0), none, none] (gw_leb_le ⟨rfl, rfl, rfl, rfl, rfl, trivial⟩) H
          · replace H := H.2 hc
            refine Ev.steps 7 (pc' := 73) (L' := [some (.ref 59), none, none, some (.int x3), some (.int x4), some (.int x5), some (.int x6), some (.int (F215 M ((M 60) (x3 : Int32).toNatClampNeg))), some (.int (F216 M ((M 60) (x3 : Int32).toNatClampNeg)))]) (st' := [.int (x5 + (F216 M ((M 60) (x3 : Int32).toNatClampNeg))), .int (x4 + (F215 M ((M 60) (x3 : Int32).toNatClampNeg))), .ref 59]) rfl ?_
            refine Ev.call (y := 214) (args := [.ref 59, .int (x4 + (F215 M ((M 60) (x3 : Int32).toNatClampNeg))), .int (x5 + (F216 M ((M 60) (x3 : Int32).toNatClampNeg)))]) (rest := []) (r := some (.int (F214 M (x4 + (F215 M ((M 60) (x3 : Int32).toNatClampNeg))) (x5 + (F216 M ((M 60) (x3 : Int32).toNatClampNeg)))))) rfl (s214) ?_
            show Ev 3 217 76 [some (.ref 59), none, none, some (.int x3), some (.int x4), some (.int x5), some (.int x6), some (.int (F215 M ((M 60) (x3 : Int32).toNatClampNeg))), some (.int (F216 M ((M 60) (x3 : Int32).toNatClampNeg)))] [.int (F214 M (x4 + (F215 M ((M 60) (x3 : Int32).toNatClampNeg))) (x5 + (F216 M ((M 60) (x3 : Int32).toNatClampNeg))))] _ _
            refine Ev.steps 1 (pc' := if (F214 M (x4 + (F215 M ((M 60) (x3 : Int32).toNatClampNeg))) (x5 + (F216 M ((M 60) (x3 : Int32).toNatClampNeg)))) = 0 then 83 else 79) (L' := [some (.ref 59), none, none, some (.int x3), some (.int x4), some (.int x5), some (.int x6), some (.int (F215 M ((M 60) (x3 : Int32).toNatClampNeg))), some (.int (F216 M ((M 60) (x3 : Int32).toNatClampNeg)))]) (st' := []) rfl ?_
            refine Ev_ite (fun hc => ?_) (fun hc => ?_)
            · replace H := H.1 hc
              refine Ev.steps 5 (pc' := 11) (L' := [some (.ref 59), none, none, some (.int x3), some (.int x4), some (.int x5), some (.int 0), some (.int (F215 M ((M 60) (x3 : Int32).toNatClampNeg))), some (.int (F216 M ((M 60) (x3 : Int32).toNatClampNeg)))]) (st' := []) rfl ?_
              exact Ev.weak [some (.ref 59), none, none, some (.int x3), some (.int x4), some (.int x5), some (.int 0), none, none] (gw_leb_le ⟨rfl, rfl, rfl, rfl, rfl, trivial⟩) H
            · replace H := H.2 hc
              refine Ev.steps 15 (pc' := 11) (L' := [some (.ref 59), none, none, some (.int (x3 + 1)), some (.int (x4 + (F215 M ((M 60) (x3 : Int32).toNatClampNeg)))), some (.int (x5 + (F216 M ((M 60) (x3 : Int32).toNatClampNeg)))), some (.int 1), some (.int (F215 M ((M 60) (x3 : Int32).toNatClampNeg))), some (.int (F216 M ((M 60) (x3 : Int32).toNatClampNeg)))]) (st' := []) rfl ?_
              exact Ev.weak [some (.ref 59), none, none, some (.int (x3 + 1)), some (.int (x4 + (F215 M ((M 60) (x3 : Int32).toNatClampNeg)))), some (.int (x5 + (F216 M ((M 60) (x3 : Int32).toNatClampNeg)))), some (.int 1), none, none] (gw_leb_le ⟨rfl, rfl, rfl, rfl, rfl, trivial⟩) H
        · replace H := H.2 hc
          refine Ev.steps 7 (pc' := 73) (L' := [some (.ref 59), none, none, some (.int x3), some (.int x4), some (.int x5), some (.int x6), some (.int (F215 M ((M 60) (x3 : Int32).toNatClampNeg))), some (.int (F216 M ((M 60) (x3 : Int32).toNatClampNeg)))]) (st' := [.int (x5 + (F216 M ((M 60) (x3 : Int32).toNatClampNeg))), .int (x4 + (F215 M ((M 60) (x3 : Int32).toNatClampNeg))), .ref 59]) rfl ?_
          refine Ev.call (y := 214) (args := [.ref 59, .int (x4 + (F215 M ((M 60) (x3 : Int32).toNatClampNeg))), .int (x5 + (F216 M ((M 60) (x3 : Int32).toNatClampNeg)))]) (rest := []) (r := some (.int (F214 M (x4 + (F215 M ((M 60) (x3 : Int32).toNatClampNeg))) (x5 + (F216 M ((M 60) (x3 : Int32).toNatClampNeg)))))) rfl (s214) ?_
          show Ev 3 217 76 [some (.ref 59), none, none, some (.int x3), some (.int x4), some (.int x5), some (.int x6), some (.int (F215 M ((M 60) (x3 : Int32).toNatClampNeg))), some (.int (F216 M ((M 60) (x3 : Int32).toNatClampNeg)))] [.int (F214 M (x4 + (F215 M ((M 60) (x3 : Int32).toNatClampNeg))) (x5 + (F216 M ((M 60) (x3 : Int32).toNatClampNeg))))] _ _
          refine Ev.steps 1 (pc' := if (F214 M (x4 + (F215 M ((M 60) (x3 : Int32).toNatClampNeg))) (x5 + (F216 M ((M 60) (x3 : Int32).toNatClampNeg)))) = 0 then 83 else 79) (L' := [some (.ref 59), none, none, some (.int x3), some (.int x4), some (.int x5), some (.int x6), some (.int (F215 M ((M 60) (x3 : Int32).toNatClampNeg))), some (.int (F216 M ((M 60) (x3 : Int32).toNatClampNeg)))]) (st' := []) rfl ?_
          refine Ev_ite (fun hc => ?_) (fun hc => ?_)
          · replace H := H.1 hc
            refine Ev.steps 5 (pc' := 11) (L' := [some (.ref 59), none, none, some (.int x3), some (.int x4), some (.int x5), some (.int 0), some (.int (F215 M ((M 60) (x3 : Int32).toNatClampNeg))), some (.int (F216 M ((M 60) (x3 : Int32).toNatClampNeg)))]) (st' := []) rfl ?_
            exact Ev.weak [some (.ref 59), none, none, some (.int x3), some (.int x4), some (.int x5), some (.int 0), none, none] (gw_leb_le ⟨rfl, rfl, rfl, rfl, rfl, trivial⟩) H
          · replace H := H.2 hc
            refine Ev.steps 15 (pc' := 11) (L' := [some (.ref 59), none, none, some (.int (x3 + 1)), some (.int (x4 + (F215 M ((M 60) (x3 : Int32).toNatClampNeg)))), some (.int (x5 + (F216 M ((M 60) (x3 : Int32).toNatClampNeg)))), some (.int 1), some (.int (F215 M ((M 60) (x3 : Int32).toNatClampNeg))), some (.int (F216 M ((M 60) (x3 : Int32).toNatClampNeg)))]) (st' := []) rfl ?_
            exact Ev.weak [some (.ref 59), none, none, some (.int (x3 + 1)), some (.int (x4 + (F215 M ((M 60) (x3 : Int32).toNatClampNeg)))), some (.int (x5 + (F216 M ((M 60) (x3 : Int32).toNatClampNeg)))), some (.int 1), none, none] (gw_leb_le ⟨rfl, rfl, rfl, rfl, rfl, trivial⟩) H

-- 221 GlassWiresModel lay (IZ)I
set_option maxRecDepth 20000 in
theorem w221_0 {E : gw_N} {M : Mem} {res : Option Value × gw_H} {x1 : Int32} {x2 : Int32} (H : (((F220 M x1) = 0 → res = (some (.int (-101)), hs E M)) ∧ (¬ (F220 M x1) = 0 → (inb x1 30 ∧ ((((M 64) (x1 : Int32).toNatClampNeg) = 0 → (inb x1 30 ∧ res = (some (.int 0), hs E (up M 64 (upd (M 64) (x1 : Int32).toNatClampNeg (x2 &&& 1)))))) ∧ (¬ ((M 64) (x1 : Int32).toNatClampNeg) = 0 → (inb x1 30 ∧ res = (some (.int 1), hs E (up M 64 (upd (M 64) (x1 : Int32).toNatClampNeg (x2 &&& 1))))))))))) : Ev 3 221 0 [some (.ref 59), some (.int x1), some (.int x2), none] [] (hs E M) res := by
  refine Ev.steps 2 (pc' := 2) (L' := [some (.ref 59), some (.int x1), some (.int x2), none]) (st' := [.int x1, .ref 59]) rfl ?_
  refine Ev.call (y := 220) (args := [.ref 59, .int x1]) (rest := []) (r := some (.int (F220 M x1))) rfl (s220) ?_
  show Ev 3 221 5 [some (.ref 59), some (.int x1), some (.int x2), none] [.int (F220 M x1)] _ _
  refine Ev.steps 1 (pc' := if (F220 M x1) = 0 then 8 else 11) (L' := [some (.ref 59), some (.int x1), some (.int x2), none]) (st' := []) rfl ?_
  refine Ev_ite (fun hc => ?_) (fun hc => ?_)
  · replace H := H.1 hc
    refine Ev.steps 1 (pc' := 10) (L' := [some (.ref 59), some (.int x1), some (.int x2), none]) (st' := [.int (-101)]) rfl ?_
    subst H
    exact Ev.ret rfl
  · replace H := H.2 hc
    refine Ev.steps 3 (pc' := 16) (L' := [some (.ref 59), some (.int x1), some (.int x2), none]) (st' := [.int x1, .ref 64]) rfl ?_
    refine Ev.rd (i := x1) (n := 30) (pc' := 17) (L' := [some (.ref 59), some (.int x1), some (.int x2), none]) (st' := [.int ((M 64) (x1 : Int32).toNatClampNeg)]) H.1 rfl ?_
    replace H := H.2
    refine Ev.steps 1 (pc' := if ((M 64) (x1 : Int32).toNatClampNeg) = 0 then 24 else 20) (L' := [some (.ref 59), some (.int x1), some (.int x2), none]) (st' := []) rfl ?_
    refine Ev_ite (fun hc => ?_) (fun hc => ?_)
    · replace H := H.1 hc
      refine Ev.steps 6 (pc' := 32) (L' := [some (.ref 59), some (.int x1), some (.int x2), some (.int 0)]) (st' := [.int x2, .int x1, .ref 64]) rfl ?_
      refine Ev.wr (a := 64) (g := (upd (M 64) (x1 : Int32).toNatClampNeg (x2 &&& 1))) (i := x1) (n := 30) (pc' := 33) (L' := [some (.ref 59), some (.int x1), some (.int x2), some (.int 0)]) (st' := []) (by decide) H.1 rfl ?_
      replace H := H.2
      refine Ev.steps 1 (pc' := 34) (L' := [some (.ref 59), some (.int x1), some (.int x2), some (.int 0)]) (st' := [.int 0]) rfl ?_
      subst H
      exact Ev.ret rfl
    · replace H := H.2 hc
      refine Ev.steps 7 (pc' := 32) (L' := [some (.ref 59), some (.int x1), some (.int x2), some (.int 1)]) (st' := [.int x2, .int x1, .ref 64]) rfl ?_
      refine Ev.wr (a := 64) (g := (upd (M 64) (x1 : Int32).toNatClampNeg (x2 &&& 1))) (i := x1) (n := 30) (pc' := 33) (L' := [some (.ref 59), some (.int x1), some (.int x2), some (.int 1)]) (st' := []) (by decide) H.1 rfl ?_
      replace H := H.2
      refine Ev.steps 1 (pc' := 34) (L' := [some (.ref 59), some (.int x1), some (.int x2), some (.int 1)]) (st' := [.int 1]) rfl ?_
      subst H
      exact Ev.ret rfl

-- 222 GlassWiresModel solder (IZ)I
set_option maxRecDepth 20000 in
theorem w222_0 {E : gw_N} {M : Mem} {res : Option Value × gw_H} {x1 : Int32} {x2 : Int32} (H : (((F220 M x1) = 0 → res = (some (.int (-101)), hs E M)) ∧ (¬ (F220 M x1) = 0 → (inb x1 30 ∧ ((((M 65) (x1 : Int32).toNatClampNeg) = 0 → (inb x1 30 ∧ res = (some (.int 0), hs E (up M 65 (upd (M 65) (x1 : Int32).toNatClampNeg (x2 &&& 1)))))) ∧ (¬ ((M 65) (x1 : Int32).toNatClampNeg) = 0 → (inb x1 30 ∧ res = (some (.int 1), hs E (up M 65 (upd (M 65) (x1 : Int32).toNatClampNeg (x2 &&& 1))))))))))) : Ev 3 222 0 [some (.ref 59), some (.int x1), some (.int x2), none] [] (hs E M) res := by
  refine Ev.steps 2 (pc' := 2) (L' := [some (.ref 59), some (.int x1), some (.int x2), none]) (st' := [.int x1, .ref 59]) rfl ?_
  refine Ev.call (y := 220) (args := [.ref 59, .int x1]) (rest := []) (r := some (.int (F220 M x1))) rfl (s220) ?_
  show Ev 3 222 5 [some (.ref 59), some (.int x1), some (.int x2), none] [.int (F220 M x1)] _ _
  refine Ev.steps 1 (pc' := if (F220 M x1) = 0 then 8 else 11) (L' := [some (.ref 59), some (.int x1), some (.int x2), none]) (st' := []) rfl ?_
  refine Ev_ite (fun hc => ?_) (fun hc => ?_)
  · replace H := H.1 hc
    refine Ev.steps 1 (pc' := 10) (L' := [some (.ref 59), some (.int x1), some (.int x2), none]) (st' := [.int (-101)]) rfl ?_
    subst H
    exact Ev.ret rfl
  · replace H := H.2 hc
    refine Ev.steps 3 (pc' := 16) (L' := [some (.ref 59), some (.int x1), some (.int x2), none]) (st' := [.int x1, .ref 65]) rfl ?_
    refine Ev.rd (i := x1) (n := 30) (pc' := 17) (L' := [some (.ref 59), some (.int x1), some (.int x2), none]) (st' := [.int ((M 65) (x1 : Int32).toNatClampNeg)]) H.1 rfl ?_
    replace H := H.2
    refine Ev.steps 1 (pc' := if ((M 65) (x1 : Int32).toNatClampNeg) = 0 then 24 else 20) (L' := [some (.ref 59), some (.int x1), some (.int x2), none]) (st' := []) rfl ?_
    refine Ev_ite (fun hc => ?_) (fun hc => ?_)
    · replace H := H.1 hc
      refine Ev.steps 6 (pc' := 32) (L' := [some (.ref 59), some (.int x1), some (.int x2), some (.int 0)]) (st' := [.int x2, .int x1, .ref 65]) rfl ?_
      refine Ev.wr (a := 65) (g := (upd (M 65) (x1 : Int32).toNatClampNeg (x2 &&& 1))) (i := x1) (n := 30) (pc' := 33) (L' := [some (.ref 59), some (.int x1), some (.int x2), some (.int 0)]) (st' := []) (by decide) H.1 rfl ?_
      replace H := H.2
      refine Ev.steps 1 (pc' := 34) (L' := [some (.ref 59), some (.int x1), some (.int x2), some (.int 0)]) (st' := [.int 0]) rfl ?_
      subst H
      exact Ev.ret rfl
    · replace H := H.2 hc
      refine Ev.steps 7 (pc' := 32) (L' := [some (.ref 59), some (.int x1), some (.int x2), some (.int 1)]) (st' := [.int x2, .int x1, .ref 65]) rfl ?_
      refine Ev.wr (a := 65) (g := (upd (M 65) (x1 : Int32).toNatClampNeg (x2 &&& 1))) (i := x1) (n := 30) (pc' := 33) (L' := [some (.ref 59), some (.int x1), some (.int x2), some (.int 1)]) (st' := []) (by decide) H.1 rfl ?_
      replace H := H.2
      refine Ev.steps 1 (pc' := 34) (L' := [some (.ref 59), some (.int x1), some (.int x2), some (.int 1)]) (st' := [.int 1]) rfl ?_
      subst H
      exact Ev.ret rfl

-- 225 GlassWiresModel edgesOf (I)I
set_option maxRecDepth 20000 in
theorem w225_0 {E : gw_N} {M : Mem} {res : Option Value × gw_H} {x1 : Int32} (H : Ev 3 225 4 [some (.ref 59), some (.int x1), some (.int 0), some (.int 0)] [] (hs E M) res) : Ev 3 225 0 [some (.ref 59), some (.int x1), none, none] [] (hs E M) res := by
  refine Ev.steps 4 (pc' := 4) (L' := [some (.ref 59), some (.int x1), some (.int 0), some (.int 0)]) (st' := []) rfl ?_
  exact Ev.weak [some (.ref 59), some (.int x1), some (.int 0), some (.int 0)] (gw_leb_le ⟨rfl, rfl, rfl, rfl, trivial⟩) H

set_option maxRecDepth 20000 in
theorem w225_4 {E : gw_N} {M : Mem} {res : Option Value × gw_H} {x1 : Int32} {x2 : Int32} {x3 : Int32} (H : ((162 ≤ x3 → res = (some (.int x2), hs E M)) ∧ (¬ 162 ≤ x3 → (∃ (r1 : Int32), Rn 224 [.ref 59, .int x1, .int x3] (hs E M) (some (.int r1)) (hs E M) ∧ ((r1 = 0 → Ev 3 225 4 [some (.ref 59), some (.int x1), some (.int (x2 + 0)), some (.int (x3 + 1))] [] (hs E M) res) ∧ (¬ r1 = 0 → Ev 3 225 4 [some (.ref 59), some (.int x1), some (.int (x2 + 1)), some (.int (x3 + 1))] [] (hs E M) res)))))) : Ev 3 225 4 [some (.ref 59), some (.int x1), some (.int x2), some (.int x3)] [] (hs E M) res := by
  refine Ev.steps 3 (pc' := if 162 ≤ x3 then 34 else 11) (L' := [some (.ref 59), some (.int x1), some (.int x2), some (.int x3)]) (st' := []) rfl ?_
  refine Ev_ite (fun hc => ?_) (fun hc => ?_)
  · replace H := H.1 hc
    refine Ev.steps 1 (pc' := 35) (L' := [some (.ref 59), some (.int x1), some (.int x2), some (.int x3)]) (st' := [.int x2]) rfl ?_
    subst H
    exact Ev.ret rfl
  · replace H := H.2 hc
    refine Ev.steps 4 (pc' := 15) (L' := [some (.ref 59), some (.int x1), some (.int x2), some (.int x3)]) (st' := [.int x3, .int x1, .ref 59, .int x2]) rfl ?_
    obtain ⟨r1, hr1, H⟩ := H
    refine Ev.call (y := 224) (args := [.ref 59, .int x1, .int x3]) (rest := [.int x2]) (r := (some (.int r1))) rfl hr1 ?_
    show Ev 3 225 18 [some (.ref 59), some (.int x1), some (.int x2), some (.int x3)] [.int r1, .int x2] _ _
    refine Ev.steps 1 (pc' := if r1 = 0 then 25 else 21) (L' := [some (.ref 59), some (.int x1), some (.int x2), some (.int x3)]) (st' := [.int x2]) rfl ?_
    refine Ev_ite (fun hc => ?_) (fun hc => ?_)
    · replace H := H.1 hc
      refine Ev.steps 5 (pc' := 4) (L' := [some (.ref 59), some (.int x1), some (.int (x2 + 0)), some (.int (x3 + 1))]) (st' := []) rfl ?_
      exact Ev.weak [some (.ref 59), some (.int x1), some (.int (x2 + 0)), some (.int (x3 + 1))] (gw_leb_le ⟨rfl, rfl, rfl, rfl, trivial⟩) H
    · replace H := H.2 hc
      refine Ev.steps 6 (pc' := 4) (L' := [some (.ref 59), some (.int x1), some (.int (x2 + 1)), some (.int (x3 + 1))]) (st' := []) rfl ?_
      exact Ev.weak [some (.ref 59), some (.int x1), some (.int (x2 + 1)), some (.int (x3 + 1))] (gw_leb_le ⟨rfl, rfl, rfl, rfl, trivial⟩) H

-- 230 GlassWiresModel findHolds ()V
set_option maxRecDepth 20000 in
theorem w230_0 {E : gw_N} {M : Mem} {res : Option Value × gw_H}  (H : Ev 3 230 2 [some (.ref 59), some (.int 0), none, none] [] (hs E M) res) : Ev 3 230 0 [some (.ref 59), none, none, none] [] (hs E M) res := by
  refine Ev.steps 2 (pc' := 2) (L' := [some (.ref 59), some (.int 0), none, none]) (st' := []) rfl ?_
  exact Ev.weak [some (.ref 59), some (.int 0), none, none] (gw_leb_le ⟨rfl, rfl, trivial⟩) H

set_option maxRecDepth 20000 in
theorem w230_2 {E : gw_N} {M : Mem} {res : Option Value × gw_H} {x1 : Int32} (H : ((((M 59) 4) ≤ x1 → Ev 3 230 46 [some (.ref 59), some (.int 1), none, none] [] (hs E M) res) ∧ (¬ ((M 59) 4) ≤ x1 → (inb x1 30 ∧ ((((M 64) (x1 : Int32).toNatClampNeg) = 0 → (inb x1 30 ∧ Ev 3 230 2 [some (.ref 59), some (.int (x1 + 1)), none, none] [] (hs E (up M 66 (upd (M 66) (x1 : Int32).toNatClampNeg (0 &&& 1)))) res)) ∧ (¬ ((M 64) (x1 : Int32).toNatClampNeg) = 0 → (∃ (r1 : Int32), Rn 227 [.ref 59, .int x1] (hs E M) (some (.int r1)) (hs E M) ∧ ((r1 = 0 → (inb x1 30 ∧ Ev 3 230 2 [some (.ref 59), some (.int (x1 + 1)), none, none] [] (hs E (up M 66 (upd (M 66) (x1 : Int32).toNatClampNeg (0 &&& 1)))) res)) ∧ (¬ r1 = 0 → (inb x1 30 ∧ Ev 3 230 2 [some (.ref 59), some (.int (x1 + 1)), none, none] [] (hs E (up M 66 (upd (M 66) (x1 : Int32).toNatClampNeg (1 &&& 1)))) res)))))))))) : Ev 3 230 2 [some (.ref 59), some (.int x1), none, none] [] (hs E M) res := by
  refine Ev.steps 4 (pc' := if ((M 59) 4) ≤ x1 then 44 else 10) (L' := [some (.ref 59), some (.int x1), none, none]) (st' := []) rfl ?_
  refine Ev_ite (fun hc => ?_) (fun hc => ?_)
  · replace H := H.1 hc
    refine Ev.steps 2 (pc' := 46) (L' := [some (.ref 59), some (.int 1), none, none]) (st' := []) rfl ?_
    exact Ev.weak [some (.ref 59), some (.int 1), none, none] (gw_leb_le ⟨rfl, rfl, trivial⟩) H
  · replace H := H.2 hc
    refine Ev.steps 6 (pc' := 20) (L' := [some (.ref 59), some (.int x1), none, none]) (st' := [.int x1, .ref 64, .int x1, .ref 66]) rfl ?_
    refine Ev.rd (i := x1) (n := 30) (pc' := 21) (L' := [some (.ref 59), some (.int x1), none, none]) (st' := [.int ((M 64) (x1 : Int32).toNatClampNeg), .int x1, .ref 66]) H.1 rfl ?_
    replace H := H.2
    refine Ev.steps 1 (pc' := if ((M 64) (x1 : Int32).toNatClampNeg) = 0 then 36 else 24) (L' := [some (.ref 59), some (.int x1), none, none]) (st' := [.int x1, .ref 66]) rfl ?_
    refine Ev_ite (fun hc => ?_) (fun hc => ?_)
    · replace H := H.1 hc
      refine Ev.steps 1 (pc' := 37) (L' := [some (.ref 59), some (.int x1), none, none]) (st' := [.int 0, .int x1, .ref 66]) rfl ?_
      refine Ev.wr (a := 66) (g := (upd (M 66) (x1 : Int32).toNatClampNeg (0 &&& 1))) (i := x1) (n := 30) (pc' := 38) (L' := [some (.ref 59), some (.int x1), none, none]) (st' := []) (by decide) H.1 rfl ?_
      replace H := H.2
      refine Ev.steps 2 (pc' := 2) (L' := [some (.ref 59), some (.int (x1 + 1)), none, none]) (st' := []) rfl ?_
      exact Ev.weak [some (.ref 59), some (.int (x1 + 1)), none, none] (gw_leb_le ⟨rfl, rfl, trivial⟩) H
    · replace H := H.2 hc
      refine Ev.steps 2 (pc' := 26) (L' := [some (.ref 59), some (.int x1), none, none]) (st' := [.int x1, .ref 59, .int x1, .ref 66]) rfl ?_
      obtain ⟨r1, hr1, H⟩ := H
      refine Ev.call (y := 227) (args := [.ref 59, .int x1]) (rest := [.int x1, .ref 66]) (r := (some (.int r1))) rfl hr1 ?_
      show Ev 3 230 29 [some (.ref 59), some (.int x1), none, none] [.int r1, .int x1, .ref 66] _ _
      refine Ev.steps 1 (pc' := if r1 = 0 then 36 else 32) (L' := [some (.ref 59), some (.int x1), none, none]) (st' := [.int x1, .ref 66]) rfl ?_
      refine Ev_ite (fun hc => ?_) (fun hc => ?_)
      · replace H := H.1 hc
        refine Ev.steps 1 (pc' := 37) (L' := [some (.ref 59), some (.int x1), none, none]) (st' := [.int 0, .int x1, .ref 66]) rfl ?_
        refine Ev.wr (a := 66) (g := (upd (M 66) (x1 : Int32).toNatClampNeg (0 &&& 1))) (i := x1) (n := 30) (pc' := 38) (L' := [some (.ref 59), some (.int x1), none, none]) (st' := []) (by decide) H.1 rfl ?_
        replace H := H.2
        refine Ev.steps 2 (pc' := 2) (L' := [some (.ref 59), some (.int (x1 + 1)), none, none]) (st' := []) rfl ?_
        exact Ev.weak [some (.ref 59), some (.int (x1 + 1)), none, none] (gw_leb_le ⟨rfl, rfl, trivial⟩) H
      · replace H := H.2 hc
        refine Ev.steps 2 (pc' := 37) (L' := [some (.ref 59), some (.int x1), none, none]) (st' := [.int 1, .int x1, .ref 66]) rfl ?_
        refine Ev.wr (a := 66) (g := (upd (M 66) (x1 : Int32).toNatClampNeg (1 &&& 1))) (i := x1) (n := 30) (pc' := 38) (L' := [some (.ref 59), some (.int x1), none, none]) (st' := []) (by decide) H.1 rfl ?_
        replace H := H.2
        refine Ev.steps 2 (pc' := 2) (L' := [some (.ref 59), some (.int (x1 + 1)), none, none]) (st' := []) rfl ?_
        exact Ev.weak [some (.ref 59), some (.int (x1 + 1)), none, none] (gw_leb_le ⟨rfl, rfl, trivial⟩) H

set_option maxRecDepth 20000 in
theorem w230_46 {E : gw_N} {M : Mem} {res : Option Value × gw_H} {x1 : Int32} (H : ((x1 = 0 → res = (none, hs E M)) ∧ (¬ x1 = 0 → Ev 3 230 54 [some (.ref 59), some (.int 0), some (.int 0), none] [] (hs E M) res))) : Ev 3 230 46 [some (.ref 59), some (.int x1), none, none] [] (hs E M) res := by
  refine Ev.steps 2 (pc' := if x1 = 0 then 141 else 50) (L' := [some (.ref 59), some (.int x1), none, none]) (st' := []) rfl ?_
  refine Ev_ite (fun hc => ?_) (fun hc => ?_)
  · replace H := H.1 hc
    subst H
    exact Ev.ret rfl
  · replace H := H.2 hc
    refine Ev.steps 4 (pc' := 54) (L' := [some (.ref 59), some (.int 0), some (.int 0), none]) (st' := []) rfl ?_
    exact Ev.weak [some (.ref 59), some (.int 0), some (.int 0), none] (gw_leb_le ⟨rfl, rfl, rfl, trivial⟩) H

set_option maxRecDepth 20000 in
theorem w230_54 {E : gw_N} {M : Mem} {res : Option Value × gw_H} {x1 : Int32} {x2 : Int32} (H : ((((M 59) 4) ≤ x2 → Ev 3 230 46 [some (.ref 59), some (.int x1), none, none] [] (hs E M) res) ∧ (¬ ((M 59) 4) ≤ x2 → Ev 3 230 64 [some (.ref 59), some (.int x1), some (.int x2), some (.int 0)] [] (hs E M) res))) : Ev 3 230 54 [some (.ref 59), some (.int x1), some (.int x2), none] [] (hs E M) res := by
  refine Ev.steps 4 (pc' := if ((M 59) 4) ≤ x2 then 138 else 62) (L' := [some (.ref 59), some (.int x1), some (.int x2), none]) (st' := []) rfl ?_
  refine Ev_ite (fun hc => ?_) (fun hc => ?_)
  · replace H := H.1 hc
    refine Ev.steps 1 (pc' := 46) (L' := [some (.ref 59), some (.int x1), some (.int x2), none]) (st' := []) rfl ?_
    exact Ev.weak [some (.ref 59), some (.int x1), none, none] (gw_leb_le ⟨rfl, rfl, trivial⟩) H
  · replace H := H.2 hc
    refine Ev.steps 2 (pc' := 64) (L' := [some (.ref 59), some (.int x1), some (.int x2), some (.int 0)]) (st' := []) rfl ?_
    exact Ev.weak [some (.ref 59), some (.int x1), some (.int x2), some (.int 0)] (gw_leb_le ⟨rfl, rfl, rfl, rfl, trivial⟩) H

set_option maxRecDepth 20000 in
theorem w230_64 {E : gw_N} {M : Mem} {res : Option Value × gw_H} {x1 : Int32} {x2 : Int32} {x3 : Int32} (H : ((((M 59) 4) ≤ x3 → Ev 3 230 54 [some (.ref 59), some (.int x1), some (.int (x2 + 1)), none] [] (hs E M) res) ∧ (¬ ((M 59) 4) ≤ x3 → (inb x2 30 ∧ ((((M 64) (x2 : Int32).toNatClampNeg) = 0 → Ev 3 230 64 [some (.ref 59), some (.int x1), some (.int x2), some (.int (x3 + 1))] [] (hs E M) res) ∧ (¬ ((M 64) (x2 : Int32).toNatClampNeg) = 0 → (inb x3 30 ∧ ((((M 64) (x3 : Int32).toNatClampNeg) = 0 → Ev 3 230 64 [some (.ref 59), some (.int x1), some (.int x2), some (.int (x3 + 1))] [] (hs E M) res) ∧ (¬ ((M 64) (x3 : Int32).toNatClampNeg) = 0 → (inb x2 30 ∧ ((((M 66) (x2 : Int32).toNatClampNeg) = 0 → Ev 3 230 64 [some (.ref 59), some (.int x1), some (.int x2), some (.int (x3 + 1))] [] (hs E M) res) ∧ (¬ ((M 66) (x2 : Int32).toNatClampNeg) = 0 → (inb x3 30 ∧ ((((M 66) (x3 : Int32).toNatClampNeg) = 0 → (∃ (r1 : Int32), Rn 229 [.ref 59, .int x2, .int x3] (hs E M) (some (.int r1)) (hs E M) ∧ ((r1 = 0 → Ev 3 230 64 [some (.ref 59), some (.int x1), some (.int x2), some (.int (x3 + 1))] [] (hs E M) res) ∧ (¬ r1 = 0 → (inb x3 30 ∧ Ev 3 230 64 [some (.ref 59), some (.int 1), some (.int x2), some (.int (x3 + 1))] [] (hs E (up M 66 (upd (M 66) (x3 : Int32).toNatClampNeg (1 &&& 1)))) res))))) ∧ (¬ ((M 66) (x3 : Int32).toNatClampNeg) = 0 → Ev 3 230 64 [some (.ref 59), some (.int x1), some (.int x2), some (.int (x3 + 1))] [] (hs E M) res))))))))))))))) : Ev 3 230 64 [some (.ref 59), some (.int x1), some (.int x2), some (.int x3)] [] (hs E M) res := by
  refine Ev.steps 4 (pc' := if ((M 59) 4) ≤ x3 then 132 else 72) (L' := [some (.ref 59), some (.int x1), some (.int x2), some (.int x3)]) (st' := []) rfl ?_
  refine Ev_ite (fun hc => ?_) (fun hc => ?_)
  · replace H := H.1 hc
    refine Ev.steps 2 (pc' := 54) (L' := [some (.ref 59), some (.int x1), some (.int (x2 + 1)), some (.int x3)]) (st' := []) rfl ?_
    exact Ev.weak [some (.ref 59), some (.int x1), some (.int (x2 + 1)), none] (gw_leb_le ⟨rfl, rfl, rfl, trivial⟩) H
  · replace H := H.2 hc
    refine Ev.steps 3 (pc' := 77) (L' := [some (.ref 59), some (.int x1), some (.int x2), some (.int x3)]) (st' := [.int x2, .ref 64]) rfl ?_
    refine Ev.rd (i := x2) (n := 30) (pc' := 78) (L' := [some (.ref 59), some (.int x1), some (.int x2), some (.int x3)]) (st' := [.int ((M 64) (x2 : Int32).toNatClampNeg)]) H.1 rfl ?_
    replace H := H.2
    refine Ev.steps 1 (pc' := if ((M 64) (x2 : Int32).toNatClampNeg) = 0 then 126 else 81) (L' := [some (.ref 59), some (.int x1), some (.int x2), some (.int x3)]) (st' := []) rfl ?_
    refine Ev_ite (fun hc => ?_) (fun hc => ?_)
    · replace H := H.1 hc
      refine Ev.steps 2 (pc' := 64) (L' := [some (.ref 59), some (.int x1), some (.int x2), some (.int (x3 + 1))]) (st' := []) rfl ?_
      exact Ev.weak [some (.ref 59), some (.int x1), some (.int x2), some (.int (x3 + 1))] (gw_leb_le ⟨rfl, rfl, rfl, rfl, trivial⟩) H
    · replace H := H.2 hc
      refine Ev.steps 3 (pc' := 86) (L' := [some (.ref 59), some (.int x1), some (.int x2), some (.int x3)]) (st' := [.int x3, .ref 64]) rfl ?_
      refine Ev.rd (i := x3) (n := 30) (pc' := 87) (L' := [some (.ref 59), some (.int x1), some (.int x2), some (.int x3)]) (st' := [.int ((M 64) (x3 : Int32).toNatClampNeg)]) H.1 rfl ?_
      replace H := H.2
      refine Ev.steps 1 (pc' := if ((M 64) (x3 : Int32).toNatClampNeg) = 0 then 126 else 90) (L' := [some (.ref 59), some (.int x1), some (.int x2), some (.int x3)]) (st' := []) rfl ?_
      refine Ev_ite (fun hc => ?_) (fun hc => ?_)
      · replace H := H.1 hc
        refine Ev.steps 2 (pc' := 64) (L' := [some (.ref 59), some (.int x1), some (.int x2), some (.int (x3 + 1))]) (st' := []) rfl ?_
        exact Ev.weak [some (.ref 59), some (.int x1), some (.int x2), some (.int (x3 + 1))] (gw_leb_le ⟨rfl, rfl, rfl, rfl, trivial⟩) H
      · replace H := H.2 hc
        refine Ev.steps 3 (pc' := 95) (L' := [some (.ref 59), some (.int x1), some (.int x2), some (.int x3)]) (st' := [.int x2, .ref 66]) rfl ?_
        refine Ev.rd (i := x2) (n := 30) (pc' := 96) (L' := [some (.ref 59), some (.int x1), some (.int x2), some (.int x3)]) (st' := [.int ((M 66) (x2 : Int32).toNatClampNeg)]) H.1 rfl ?_
        replace H := H.2
        refine Ev.steps 1 (pc' := if ((M 66) (x2 : Int32).toNatClampNeg) = 0 then 126 else 99) (L' := [some (.ref 59), some (.int x1), some (.int x2), some (.int x3)]) (st' := []) rfl ?_
        refine Ev_ite (fun hc => ?_) (fun hc => ?_)
        · replace H := H.1 hc
          refine Ev.steps 2 (pc' := 64) (L' := [some (.ref 59), some (.int x1), some (.int x2), some (.int (x3 + 1))]) (st' := []) rfl ?_
          exact Ev.weak [some (.ref 59), some (.int x1), some (.int x2), some (.int (x3 + 1))] (gw_leb_le ⟨rfl, rfl, rfl, rfl, trivial⟩) H
        · replace H := H.2 hc
          refine Ev.steps 3 (pc' := 104) (L' := [some (.ref 59), some (.int x1), some (.int x2), some (.int x3)]) (st' := [.int x3, .ref 66]) rfl ?_
          refine Ev.rd (i := x3) (n := 30) (pc' := 105) (L' := [some (.ref 59), some (.int x1), some (.int x2), some (.int x3)]) (st' := [.int ((M 66) (x3 : Int32).toNatClampNeg)]) H.1 rfl ?_
          replace H := H.2
          refine Ev.steps 1 (pc' := if ((M 66) (x3 : Int32).toNatClampNeg) = 0 then 108 else 126) (L' := [some (.ref 59), some (.int x1), some (.int x2), some (.int x3)]) (st' := []) rfl ?_
          refine Ev_ite (fun hc => ?_) (fun hc => ?_)
          · replace H := H.1 hc
            refine Ev.steps 3 (pc' := 111) (L' := [some (.ref 59), some (.int x1), some (.int x2), some (.int x3)]) (st' := [.int x3, .int x2, .ref 59]) rfl ?_
            obtain ⟨r1, hr1, H⟩ := H
            refine Ev.call (y := 229) (args := [.ref 59, .int x2, .int x3]) (rest := []) (r := (some (.int r1))) rfl hr1 ?_
            show Ev 3 230 114 [some (.ref 59), some (.int x1), some (.int x2), some (.int x3)] [.int r1] _ _
            refine Ev.steps 1 (pc' := if r1 = 0 then 126 else 117) (L' := [some (.ref 59), some (.int x1), some (.int x2), some (.int x3)]) (st' := []) rfl ?_
            refine Ev_ite (fun hc => ?_) (fun hc => ?_)
            · replace H := H.1 hc
              refine Ev.steps 2 (pc' := 64) (L' := [some (.ref 59), some (.int x1), some (.int x2), some (.int (x3 + 1))]) (st' := []) rfl ?_
              exact Ev.weak [some (.ref 59), some (.int x1), some (.int x2), some (.int (x3 + 1))] (gw_leb_le ⟨rfl, rfl, rfl, rfl, trivial⟩) H
            · replace H := H.2 hc
              refine Ev.steps 4 (pc' := 123) (L' := [some (.ref 59), some (.int x1), some (.int x2), some (.int x3)]) (st' := [.int 1, .int x3, .ref 66]) rfl ?_
              refine Ev.wr (a := 66) (g := (upd (M 66) (x3 : Int32).toNatClampNeg (1 &&& 1))) (i := x3) (n := 30) (pc' := 124) (L' := [some (.ref 59), some (.int x1), some (.int x2), some (.int x3)]) (st' := []) (by decide) H.1 rfl ?_
              replace H := H.2
              refine Ev.steps 4 (pc' := 64) (L' := [some (.ref 59), some (.int 1), some (.int x2), some (.int (x3 + 1))]) (st' := []) rfl ?_
              exact Ev.weak [some (.ref 59), some (.int 1), some (.int x2), some (.int (x3 + 1))] (gw_leb_le ⟨rfl, rfl, rfl, rfl, trivial⟩) H
          · replace H := H.2 hc
            refine Ev.steps 2 (pc' := 64) (L' := [some (.ref 59), some (.int x1), some (.int x2), some (.int (x3 + 1))]) (st' := []) rfl ?_
            exact Ev.weak [some (.ref 59), some (.int x1), some (.int x2), some (.int (x3 + 1))] (gw_leb_le ⟨rfl, rfl, rfl, rfl, trivial⟩) H

-- 232 GlassWiresModel point (II)I
set_option maxRecDepth 20000 in
theorem w232_0 {E : gw_N} {M : Mem} {res : Option Value × gw_H} {x1 : Int32} {x2 : Int32} (H : (((F220 M x1) = 0 → res = (some (.int (-101)), hs E M)) ∧ (¬ (F220 M x1) = 0 → (inb x1 30 ∧ (((F209 M (Int32.toInt64 x2) 0 (Int32.toInt64 ((M 63) (x1 : Int32).toNatClampNeg))) = 0 → res = (some (.int (-1)), hs E M)) ∧ (¬ (F209 M (Int32.toInt64 x2) 0 (Int32.toInt64 ((M 63) (x1 : Int32).toNatClampNeg))) = 0 → (inb ((25 * x1) + x2) 750 ∧ (inb ((25 * x1) + x2) 750 ∧ res = (some (.int ((10 * ((M 62) (((25 * x1) + x2) : Int32).toNatClampNeg)) + ((M 61) (((25 * x1) + x2) : Int32).toNatClampNeg))), hs E M))))))))) : Ev 3 232 0 [some (.ref 59), some (.int x1), some (.int x2)] [] (hs E M) res := by
  refine Ev.steps 2 (pc' := 2) (L' := [some (.ref 59), some (.int x1), some (.int x2)]) (st' := [.int x1, .ref 59]) rfl ?_
  refine Ev.call (y := 220) (args := [.ref 59, .int x1]) (rest := []) (r := some (.int (F220 M x1))) rfl (s220) ?_
  show Ev 3 232 5 [some (.ref 59), some (.int x1), some (.int x2)] [.int (F220 M x1)] _ _
  refine Ev.steps 1 (pc' := if (F220 M x1) = 0 then 8 else 11) (L' := [some (.ref 59), some (.int x1), some (.int x2)]) (st' := []) rfl ?_
  refine Ev_ite (fun hc => ?_) (fun hc => ?_)
  · replace H := H.1 hc
    refine Ev.steps 1 (pc' := 10) (L' := [some (.ref 59), some (.int x1), some (.int x2)]) (st' := [.int (-101)]) rfl ?_
    subst H
    exact Ev.ret rfl
  · replace H := H.2 hc
    refine Ev.steps 6 (pc' := 19) (L' := [some (.ref 59), some (.int x1), some (.int x2)]) (st' := [.int x1, .ref 63, .long 0, .long (Int32.toInt64 x2)]) rfl ?_
    refine Ev.rd (i := x1) (n := 30) (pc' := 20) (L' := [some (.ref 59), some (.int x1), some (.int x2)]) (st' := [.int ((M 63) (x1 : Int32).toNatClampNeg), .long 0, .long (Int32.toInt64 x2)]) H.1 rfl ?_
    replace H := H.2
    refine Ev.steps 1 (pc' := 21) (L' := [some (.ref 59), some (.int x1), some (.int x2)]) (st' := [.long (Int32.toInt64 ((M 63) (x1 : Int32).toNatClampNeg)), .long 0, .long (Int32.toInt64 x2)]) rfl ?_
    refine Ev.call (y := 209) (args := [.long (Int32.toInt64 x2), .long 0, .long (Int32.toInt64 ((M 63) (x1 : Int32).toNatClampNeg))]) (rest := []) (r := some (.int (F209 M (Int32.toInt64 x2) 0 (Int32.toInt64 ((M 63) (x1 : Int32).toNatClampNeg))))) rfl (s209) ?_
    show Ev 3 232 24 [some (.ref 59), some (.int x1), some (.int x2)] [.int (F209 M (Int32.toInt64 x2) 0 (Int32.toInt64 ((M 63) (x1 : Int32).toNatClampNeg)))] _ _
    refine Ev.steps 1 (pc' := if (F209 M (Int32.toInt64 x2) 0 (Int32.toInt64 ((M 63) (x1 : Int32).toNatClampNeg))) = 0 then 56 else 27) (L' := [some (.ref 59), some (.int x1), some (.int x2)]) (st' := []) rfl ?_
    refine Ev_ite (fun hc => ?_) (fun hc => ?_)
    · replace H := H.1 hc
      refine Ev.steps 1 (pc' := 57) (L' := [some (.ref 59), some (.int x1), some (.int x2)]) (st' := [.int (-1)]) rfl ?_
      subst H
      exact Ev.ret rfl
    · replace H := H.2 hc
      refine Ev.steps 8 (pc' := 39) (L' := [some (.ref 59), some (.int x1), some (.int x2)]) (st' := [.int ((25 * x1) + x2), .ref 62, .int 10]) rfl ?_
      refine Ev.rd (i := ((25 * x1) + x2)) (n := 750) (pc' := 40) (L' := [some (.ref 59), some (.int x1), some (.int x2)]) (st' := [.int ((M 62) (((25 * x1) + x2) : Int32).toNatClampNeg), .int 10]) H.1 rfl ?_
      replace H := H.2
      refine Ev.steps 8 (pc' := 51) (L' := [some (.ref 59), some (.int x1), some (.int x2)]) (st' := [.int ((25 * x1) + x2), .ref 61, .int (10 * ((M 62) (((25 * x1) + x2) : Int32).toNatClampNeg))]) rfl ?_
      refine Ev.rd (i := ((25 * x1) + x2)) (n := 750) (pc' := 52) (L' := [some (.ref 59), some (.int x1), some (.int x2)]) (st' := [.int ((M 61) (((25 * x1) + x2) : Int32).toNatClampNeg), .int (10 * ((M 62) (((25 * x1) + x2) : Int32).toNatClampNeg))]) H.1 rfl ?_
      replace H := H.2
      refine Ev.steps 2 (pc' := 57) (L' := [some (.ref 59), some (.int x1), some (.int x2)]) (st' := [.int ((10 * ((M 62) (((25 * x1) + x2) : Int32).toNatClampNeg)) + ((M 61) (((25 * x1) + x2) : Int32).toNatClampNeg))]) rfl ?_
      subst H
      exact Ev.ret rfl

def F232 (M : Mem) (x1 : Int32) (x2 : Int32) : Int32 := (if (F220 M x1) = 0 then (-101) else (if (F209 M (Int32.toInt64 x2) 0 (Int32.toInt64 ((M 63) (x1 : Int32).toNatClampNeg))) = 0 then (-1) else ((10 * ((M 62) (((25 * x1) + x2) : Int32).toNatClampNeg)) + ((M 61) (((25 * x1) + x2) : Int32).toNatClampNeg))))
def P232 (M : Mem) (x1 : Int32) (x2 : Int32) : Prop := (((F220 M x1) = 0 → True) ∧ (¬ (F220 M x1) = 0 → (inb x1 30 ∧ (((F209 M (Int32.toInt64 x2) 0 (Int32.toInt64 ((M 63) (x1 : Int32).toNatClampNeg))) = 0 → True) ∧ (¬ (F209 M (Int32.toInt64 x2) 0 (Int32.toInt64 ((M 63) (x1 : Int32).toNatClampNeg))) = 0 → (inb ((25 * x1) + x2) 750 ∧ (inb ((25 * x1) + x2) 750)))))))
theorem s232 {E : gw_N} {M : Mem} {x1 : Int32} {x2 : Int32} (H : P232 M x1 x2) : Rn 232 [.ref 59, .int x1, .int x2] (hs E M) (some (.int (F232 M x1 x2))) (hs E M) :=
  w232_0 (⟨fun h0 => gw_reteq (if_pos h0), fun h0 => ⟨(H.2 h0).1, ⟨fun h1 => gw_reteq ((if_neg h0).trans (if_pos h1)), fun h1 => ⟨((H.2 h0).2.2 h1).1, ⟨((H.2 h0).2.2 h1).2, gw_reteq ((if_neg h0).trans (if_neg h1))⟩⟩⟩⟩⟩)
-- 233 GlassWiresModel coversOf (I)I
set_option maxRecDepth 20000 in
theorem w233_0 {E : gw_N} {M : Mem} {res : Option Value × gw_H} {x1 : Int32} (H : Ev 3 233 4 [some (.ref 59), some (.int x1), some (.int 0), some (.int 0)] [] (hs E M) res) : Ev 3 233 0 [some (.ref 59), some (.int x1), none, none] [] (hs E M) res := by
  refine Ev.steps 4 (pc' := 4) (L' := [some (.ref 59), some (.int x1), some (.int 0), some (.int 0)]) (st' := []) rfl ?_
  exact Ev.weak [some (.ref 59), some (.int x1), some (.int 0), some (.int 0)] (gw_leb_le ⟨rfl, rfl, rfl, rfl, trivial⟩) H

set_option maxRecDepth 20000 in
theorem w233_4 {E : gw_N} {M : Mem} {res : Option Value × gw_H} {x1 : Int32} {x2 : Int32} {x3 : Int32} (H : ((((M 59) 4) ≤ x3 → res = (some (.int x2), hs E M)) ∧ (¬ ((M 59) 4) ≤ x3 → (inb x3 30 ∧ ((((M 64) (x3 : Int32).toNatClampNeg) = 0 → Ev 3 233 4 [some (.ref 59), some (.int x1), some (.int (x2 + 0)), some (.int (x3 + 1))] [] (hs E M) res) ∧ (¬ ((M 64) (x3 : Int32).toNatClampNeg) = 0 → (∃ (r1 : Int32), Rn 224 [.ref 59, .int x3, .int x1] (hs E M) (some (.int r1)) (hs E M) ∧ ((r1 = 0 → Ev 3 233 4 [some (.ref 59), some (.int x1), some (.int (x2 + 0)), some (.int (x3 + 1))] [] (hs E M) res) ∧ (¬ r1 = 0 → Ev 3 233 4 [some (.ref 59), some (.int x1), some (.int (x2 + 1)), some (.int (x3 + 1))] [] (hs E M) res))))))))) : Ev 3 233 4 [some (.ref 59), some (.int x1), some (.int x2), some (.int x3)] [] (hs E M) res := by
  refine Ev.steps 4 (pc' := if ((M 59) 4) ≤ x3 then 44 else 12) (L' := [some (.ref 59), some (.int x1), some (.int x2), some (.int x3)]) (st' := []) rfl ?_
  refine Ev_ite (fun hc => ?_) (fun hc => ?_)
  · replace H := H.1 hc
    refine Ev.steps 1 (pc' := 45) (L' := [some (.ref 59), some (.int x1), some (.int x2), some (.int x3)]) (st' := [.int x2]) rfl ?_
    subst H
    exact Ev.ret rfl
  · replace H := H.2 hc
    refine Ev.steps 4 (pc' := 18) (L' := [some (.ref 59), some (.int x1), some (.int x2), some (.int x3)]) (st' := [.int x3, .ref 64, .int x2]) rfl ?_
    refine Ev.rd (i := x3) (n := 30) (pc' := 19) (L' := [some (.ref 59), some (.int x1), some (.int x2), some (.int x3)]) (st' := [.int ((M 64) (x3 : Int32).toNatClampNeg), .int x2]) H.1 rfl ?_
    replace H := H.2
    refine Ev.steps 1 (pc' := if ((M 64) (x3 : Int32).toNatClampNeg) = 0 then 35 else 22) (L' := [some (.ref 59), some (.int x1), some (.int x2), some (.int x3)]) (st' := [.int x2]) rfl ?_
    refine Ev_ite (fun hc => ?_) (fun hc => ?_)
    · replace H := H.1 hc
      refine Ev.steps 5 (pc' := 4) (L' := [some (.ref 59), some (.int x1), some (.int (x2 + 0)), some (.int (x3 + 1))]) (st' := []) rfl ?_
      exact Ev.weak [some (.ref 59), some (.int x1), some (.int (x2 + 0)), some (.int (x3 + 1))] (gw_leb_le ⟨rfl, rfl, rfl, rfl, trivial⟩) H
    · replace H := H.2 hc
      refine Ev.steps 3 (pc' := 25) (L' := [some (.ref 59), some (.int x1), some (.int x2), some (.int x3)]) (st' := [.int x1, .int x3, .ref 59, .int x2]) rfl ?_
      obtain ⟨r1, hr1, H⟩ := H
      refine Ev.call (y := 224) (args := [.ref 59, .int x3, .int x1]) (rest := [.int x2]) (r := (some (.int r1))) rfl hr1 ?_
      show Ev 3 233 28 [some (.ref 59), some (.int x1), some (.int x2), some (.int x3)] [.int r1, .int x2] _ _
      refine Ev.steps 1 (pc' := if r1 = 0 then 35 else 31) (L' := [some (.ref 59), some (.int x1), some (.int x2), some (.int x3)]) (st' := [.int x2]) rfl ?_
      refine Ev_ite (fun hc => ?_) (fun hc => ?_)
      · replace H := H.1 hc
        refine Ev.steps 5 (pc' := 4) (L' := [some (.ref 59), some (.int x1), some (.int (x2 + 0)), some (.int (x3 + 1))]) (st' := []) rfl ?_
        exact Ev.weak [some (.ref 59), some (.int x1), some (.int (x2 + 0)), some (.int (x3 + 1))] (gw_leb_le ⟨rfl, rfl, rfl, rfl, trivial⟩) H
      · replace H := H.2 hc
        refine Ev.steps 6 (pc' := 4) (L' := [some (.ref 59), some (.int x1), some (.int (x2 + 1)), some (.int (x3 + 1))]) (st' := []) rfl ?_
        exact Ev.weak [some (.ref 59), some (.int x1), some (.int (x2 + 1)), some (.int (x3 + 1))] (gw_leb_le ⟨rfl, rfl, rfl, rfl, trivial⟩) H

-- 238 GlassWiresModel coverAt (III)I
set_option maxRecDepth 20000 in
theorem w238_0 {E : gw_N} {M : Mem} {res : Option Value × gw_H} {x1 : Int32} {x2 : Int32} {x3 : Int32} (H : (((F234 M x1 x2 x3) = 0 → res = (some (.int 0), hs E M)) ∧ (¬ (F234 M x1 x2 x3) = 0 → (inb (F235 M x1 x2 x3) 162 ∧ res = (some (.int ((M 67) ((F235 M x1 x2 x3) : Int32).toNatClampNeg)), hs E M))))) : Ev 3 238 0 [some (.ref 59), some (.int x1), some (.int x2), some (.int x3)] [] (hs E M) res := by
  refine Ev.steps 4 (pc' := 4) (L' := [some (.ref 59), some (.int x1), some (.int x2), some (.int x3)]) (st' := [.int x3, .int x2, .int x1, .ref 59]) rfl ?_
  refine Ev.call (y := 234) (args := [.ref 59, .int x1, .int x2, .int x3]) (rest := []) (r := some (.int (F234 M x1 x2 x3))) rfl (s234) ?_
  show Ev 3 238 7 [some (.ref 59), some (.int x1), some (.int x2), some (.int x3)] [.int (F234 M x1 x2 x3)] _ _
  refine Ev.steps 1 (pc' := if (F234 M x1 x2 x3) = 0 then 24 else 10) (L' := [some (.ref 59), some (.int x1), some (.int x2), some (.int x3)]) (st' := []) rfl ?_
  refine Ev_ite (fun hc => ?_) (fun hc => ?_)
  · replace H := H.1 hc
    refine Ev.steps 1 (pc' := 25) (L' := [some (.ref 59), some (.int x1), some (.int x2), some (.int x3)]) (st' := [.int 0]) rfl ?_
    subst H
    exact Ev.ret rfl
  · replace H := H.2 hc
    refine Ev.steps 5 (pc' := 17) (L' := [some (.ref 59), some (.int x1), some (.int x2), some (.int x3)]) (st' := [.int x3, .int x2, .int x1, .ref 67]) rfl ?_
    refine Ev.call (y := 235) (args := [.int x1, .int x2, .int x3]) (rest := [.ref 67]) (r := some (.int (F235 M x1 x2 x3))) rfl (s235) ?_
    show Ev 3 238 20 [some (.ref 59), some (.int x1), some (.int x2), some (.int x3)] [.int (F235 M x1 x2 x3), .ref 67] _ _
    refine Ev.rd (i := (F235 M x1 x2 x3)) (n := 162) (pc' := 21) (L' := [some (.ref 59), some (.int x1), some (.int x2), some (.int x3)]) (st' := [.int ((M 67) ((F235 M x1 x2 x3) : Int32).toNatClampNeg)]) H.1 rfl ?_
    replace H := H.2
    refine Ev.steps 1 (pc' := 25) (L' := [some (.ref 59), some (.int x1), some (.int x2), some (.int x3)]) (st' := [.int ((M 67) ((F235 M x1 x2 x3) : Int32).toNatClampNeg)]) rfl ?_
    subst H
    exact Ev.ret rfl

def F238 (M : Mem) (x1 : Int32) (x2 : Int32) (x3 : Int32) : Int32 := (if (F234 M x1 x2 x3) = 0 then 0 else ((M 67) ((F235 M x1 x2 x3) : Int32).toNatClampNeg))
def P238 (M : Mem) (x1 : Int32) (x2 : Int32) (x3 : Int32) : Prop := (((F234 M x1 x2 x3) = 0 → True) ∧ (¬ (F234 M x1 x2 x3) = 0 → (inb (F235 M x1 x2 x3) 162)))
theorem s238 {E : gw_N} {M : Mem} {x1 : Int32} {x2 : Int32} {x3 : Int32} (H : P238 M x1 x2 x3) : Rn 238 [.ref 59, .int x1, .int x2, .int x3] (hs E M) (some (.int (F238 M x1 x2 x3))) (hs E M) :=
  w238_0 (⟨fun h0 => gw_reteq (if_pos h0), fun h0 => ⟨(H.2 h0), gw_reteq (if_neg h0)⟩⟩)
-- 247 GlassWiresModel findCells ()V
set_option maxRecDepth 20000 in
theorem w247_0 {E : gw_N} {M : Mem} {res : Option Value × gw_H}  (H : (∃ (M1 : Mem), Rn 237 [.ref 59] (hs E M) none (hs E M1) ∧ Ev 3 247 6 [some (.ref 59), some (.int 0), none, none, none, none] [] (hs E M1) res)) : Ev 3 247 0 [some (.ref 59), none, none, none, none, none] [] (hs E M) res := by
  refine Ev.steps 1 (pc' := 1) (L' := [some (.ref 59), none, none, none, none, none]) (st' := [.ref 59]) rfl ?_
  obtain ⟨M1, hr1, H⟩ := H
  refine Ev.call (y := 237) (args := [.ref 59]) (rest := []) (r := none) rfl hr1 ?_
  show Ev 3 247 4 [some (.ref 59), none, none, none, none, none] [] _ _
  refine Ev.steps 2 (pc' := 6) (L' := [some (.ref 59), some (.int 0), none, none, none, none]) (st' := []) rfl ?_
  exact Ev.weak [some (.ref 59), some (.int 0), none, none, none, none] (gw_leb_le ⟨rfl, rfl, trivial⟩) H

set_option maxRecDepth 20000 in
theorem w247_6 {E : gw_N} {M : Mem} {res : Option Value × gw_H} {x1 : Int32} (H : (((F243 M) ≤ x1 → Ev 3 247 29 [some (.ref 59), some (.int 1), none, none, none, none] [] (hs E M) res) ∧ (¬ (F243 M) ≤ x1 → (inb x1 64 ∧ Ev 3 247 6 [some (.ref 59), some (.int (x1 + 1)), none, none, none, none] [] (hs E (up M 69 (upd (M 69) (x1 : Int32).toNatClampNeg x1))) res)))) : Ev 3 247 6 [some (.ref 59), some (.int x1), none, none, none, none] [] (hs E M) res := by
  refine Ev.steps 2 (pc' := 8) (L' := [some (.ref 59), some (.int x1), none, none, none, none]) (st' := [.ref 59, .int x1]) rfl ?_
  refine Ev.call (y := 243) (args := [.ref 59]) (rest := [.int x1]) (r := some (.int (F243 M))) rfl (s243) ?_
  show Ev 3 247 11 [some (.ref 59), some (.int x1), none, none, none, none] [.int (F243 M), .int x1] _ _
  refine Ev.steps 1 (pc' := if (F243 M) ≤ x1 then 27 else 14) (L' := [some (.ref 59), some (.int x1), none, none, none, none]) (st' := []) rfl ?_
  refine Ev_ite (fun hc => ?_) (fun hc => ?_)
  · replace H := H.1 hc
    refine Ev.steps 2 (pc' := 29) (L' := [some (.ref 59), some (.int 1), none, none, none, none]) (st' := []) rfl ?_
    exact Ev.weak [some (.ref 59), some (.int 1), none, none, none, none] (gw_leb_le ⟨rfl, rfl, trivial⟩) H
  · replace H := H.2 hc
    refine Ev.steps 4 (pc' := 20) (L' := [some (.ref 59), some (.int x1), none, none, none, none]) (st' := [.int x1, .int x1, .ref 69]) rfl ?_
    refine Ev.wr (a := 69) (g := (upd (M 69) (x1 : Int32).toNatClampNeg x1)) (i := x1) (n := 64) (pc' := 21) (L' := [some (.ref 59), some (.int x1), none, none, none, none]) (st' := []) (by decide) H.1 rfl ?_
    replace H := H.2
    refine Ev.steps 2 (pc' := 6) (L' := [some (.ref 59), some (.int (x1 + 1)), none, none, none, none]) (st' := []) rfl ?_
    exact Ev.weak [some (.ref 59), some (.int (x1 + 1)), none, none, none, none] (gw_leb_le ⟨rfl, rfl, trivial⟩) H

set_option maxRecDepth 20000 in
theorem w247_29 {E : gw_N} {M : Mem} {res : Option Value × gw_H} {x1 : Int32} (H : ((x1 = 0 → res = (none, hs E M)) ∧ (¬ x1 = 0 → Ev 3 247 37 [some (.ref 59), some (.int 0), some (.int 0), none, none, none] [] (hs E M) res))) : Ev 3 247 29 [some (.ref 59), some (.int x1), none, none, none, none] [] (hs E M) res := by
  refine Ev.steps 2 (pc' := if x1 = 0 then 164 else 33) (L' := [some (.ref 59), some (.int x1), none, none, none, none]) (st' := []) rfl ?_
  refine Ev_ite (fun hc => ?_) (fun hc => ?_)
  · replace H := H.1 hc
    subst H
    exact Ev.ret rfl
  · replace H := H.2 hc
    refine Ev.steps 4 (pc' := 37) (L' := [some (.ref 59), some (.int 0), some (.int 0), none, none, none]) (st' := []) rfl ?_
    exact Ev.weak [some (.ref 59), some (.int 0), some (.int 0), none, none, none] (gw_leb_le ⟨rfl, rfl, rfl, trivial⟩) H

set_option maxRecDepth 20000 in
theorem w247_37 {E : gw_N} {M : Mem} {res : Option Value × gw_H} {x1 : Int32} {x2 : Int32} (H : (((F243 M) ≤ x2 → Ev 3 247 29 [some (.ref 59), some (.int x1), none, none, none, none] [] (hs E M) res) ∧ (¬ (F243 M) ≤ x2 → Ev 3 247 47 [some (.ref 59), some (.int x1), some (.int x2), some (.int 0), none, none] [] (hs E M) res))) : Ev 3 247 37 [some (.ref 59), some (.int x1), some (.int x2), none, none, none] [] (hs E M) res := by
  refine Ev.steps 2 (pc' := 39) (L' := [some (.ref 59), some (.int x1), some (.int x2), none, none, none]) (st' := [.ref 59, .int x2]) rfl ?_
  refine Ev.call (y := 243) (args := [.ref 59]) (rest := [.int x2]) (r := some (.int (F243 M))) rfl (s243) ?_
  show Ev 3 247 42 [some (.ref 59), some (.int x1), some (.int x2), none, none, none] [.int (F243 M), .int x2] _ _
  refine Ev.steps 1 (pc' := if (F243 M) ≤ x2 then 161 else 45) (L' := [some (.ref 59), some (.int x1), some (.int x2), none, none, none]) (st' := []) rfl ?_
  refine Ev_ite (fun hc => ?_) (fun hc => ?_)
  · replace H := H.1 hc
    refine Ev.steps 1 (pc' := 29) (L' := [some (.ref 59), some (.int x1), some (.int x2), none, none, none]) (st' := []) rfl ?_
    exact Ev.weak [some (.ref 59), some (.int x1), none, none, none, none] (gw_leb_le ⟨rfl, rfl, trivial⟩) H
  · replace H := H.2 hc
    refine Ev.steps 2 (pc' := 47) (L' := [some (.ref 59), some (.int x1), some (.int x2), some (.int 0), none, none]) (st' := []) rfl ?_
    exact Ev.weak [some (.ref 59), some (.int x1), some (.int x2), some (.int 0), none, none] (gw_leb_le ⟨rfl, rfl, rfl, rfl, trivial⟩) H

set_option maxRecDepth 20000 in
theorem w247_47 {E : gw_N} {M : Mem} {res : Option Value × gw_H} {x1 : Int32} {x2 : Int32} {x3 : Int32} (H : ((2 ≤ x3 → Ev 3 247 37 [some (.ref 59), some (.int x1), some (.int (x2 + 1)), none, none, none] [] (hs E M) res) ∧ (¬ 2 ≤ x3 → (P245 M x2 x3 ∧ (((F245 M x2 x3) = (-1) → Ev 3 247 47 [some (.ref 59), some (.int x1), some (.int x2), some (.int (x3 + 1)), none, none] [] (hs E M) res) ∧ (¬ (F245 M x2 x3) = (-1) → (P246 M x2 x3 ∧ (inb (F246 M x2 x3) 162 ∧ ((((M 67) ((F246 M x2 x3) : Int32).toNatClampNeg) = 0 → (inb x2 64 ∧ (inb (F245 M x2 x3) 64 ∧ ((((M 69) (x2 : Int32).toNatClampNeg) = ((M 69) ((F245 M x2 x3) : Int32).toNatClampNeg) → Ev 3 247 47 [some (.ref 59), some (.int x1), some (.int x2), some (.int (x3 + 1)), none, none] [] (hs E M) res) ∧ (¬ ((M 69) (x2 : Int32).toNatClampNeg) = ((M 69) ((F245 M x2 x3) : Int32).toNatClampNeg) → (inb x2 64 ∧ (inb (F245 M x2 x3) 64 ∧ ((((M 69) ((F245 M x2 x3) : Int32).toNatClampNeg) ≤ ((M 69) (x2 : Int32).toNatClampNeg) → (inb (F245 M x2 x3) 64 ∧ (inb x2 64 ∧ (inb (F245 M x2 x3) 64 ∧ Ev 3 247 47 [some (.ref 59), some (.int 1), some (.int x2), some (.int (x3 + 1)), none, none] [] (hs E (up M 69 (upd (upd (M 69) (x2 : Int32).toNatClampNeg ((M 69) ((F245 M x2 x3) : Int32).toNatClampNeg)) ((F245 M x2 x3) : Int32).toNatClampNeg ((M 69) ((F245 M x2 x3) : Int32).toNatClampNeg)))) res)))) ∧ (¬ ((M 69) ((F245 M x2 x3) : Int32).toNatClampNeg) ≤ ((M 69) (x2 : Int32).toNatClampNeg) → (inb x2 64 ∧ (inb x2 64 ∧ (inb (F245 M x2 x3) 64 ∧ Ev 3 247 47 [some (.ref 59), some (.int 1), some (.int x2), some (.int (x3 + 1)), none, none] [] (hs E (up M 69 (upd (upd (M 69) (x2 : Int32).toNatClampNeg ((M 69) (x2 : Int32).toNatClampNeg)) ((F245 M x2 x3) : Int32).toNatClampNeg ((M 69) (x2 : Int32).toNatClampNeg)))) res)))))))))))) ∧ (¬ ((M 67) ((F246 M x2 x3) : Int32).toNatClampNeg) = 0 → Ev 3 247 47 [some (.ref 59), some (.int x1), some (.int x2), some (.int (x3 + 1)), none, none] [] (hs E M) res)))))))))) : Ev 3 247 47 [some (.ref 59), some (.int x1), some (.int x2), some (.int x3), none, none] [] (hs E M) res := by
  refine Ev.steps 3 (pc' := if 2 ≤ x3 then 155 else 52) (L' := [some (.ref 59), some (.int x1), some (.int x2), some (.int x3), none, none]) (st' := []) rfl ?_
  refine Ev_ite (fun hc => ?_) (fun hc => ?_)
  · replace H := H.1 hc
    refine Ev.steps 2 (pc' := 37) (L' := [some (.ref 59), some (.int x1), some (.int (x2 + 1)), some (.int x3), none, none]) (st' := []) rfl ?_
    exact Ev.weak [some (.ref 59), some (.int x1), some (.int (x2 + 1)), none, none, none] (gw_leb_le ⟨rfl, rfl, rfl, trivial⟩) H
  · replace H := H.2 hc
    refine Ev.steps 3 (pc' := 55) (L' := [some (.ref 59), some (.int x1), some (.int x2), some (.int x3), none, none]) (st' := [.int x3, .int x2, .ref 59]) rfl ?_
    refine Ev.call (y := 245) (args := [.ref 59, .int x2, .int x3]) (rest := []) (r := some (.int (F245 M x2 x3))) rfl (s245 H.1) ?_
    replace H := H.2
    show Ev 3 247 58 [some (.ref 59), some (.int x1), some (.int x2), some (.int x3), none, none] [.int (F245 M x2 x3)] _ _
    refine Ev.steps 4 (pc' := if (F245 M x2 x3) = (-1) then 149 else 66) (L' := [some (.ref 59), some (.int x1), some (.int x2), some (.int x3), some (.int (F245 M x2 x3)), none]) (st' := []) rfl ?_
    refine Ev_ite (fun hc => ?_) (fun hc => ?_)
    · replace H := H.1 hc
      refine Ev.steps 2 (pc' := 47) (L' := [some (.ref 59), some (.int x1), some (.int x2), some (.int (x3 + 1)), some (.int (F245 M x2 x3)), none]) (st' := []) rfl ?_
      exact Ev.weak [some (.ref 59), some (.int x1), some (.int x2), some (.int (x3 + 1)), none, none] (gw_leb_le ⟨rfl, rfl, rfl, rfl, trivial⟩) H
    · replace H := H.2 hc
      refine Ev.steps 5 (pc' := 73) (L' := [some (.ref 59), some (.int x1), some (.int x2), some (.int x3), some (.int (F245 M x2 x3)), none]) (st' := [.int x3, .int x2, .ref 59, .ref 67]) rfl ?_
      refine Ev.call (y := 246) (args := [.ref 59, .int x2, .int x3]) (rest := [.ref 67]) (r := some (.int (F246 M x2 x3))) rfl (s246 H.1) ?_
      replace H := H.2
      show Ev 3 247 76 [some (.ref 59), some (.int x1), some (.int x2), some (.int x3), some (.int (F245 M x2 x3)), none] [.int (F246 M x2 x3), .ref 67] _ _
      refine Ev.rd (i := (F246 M x2 x3)) (n := 162) (pc' := 77) (L' := [some (.ref 59), some (.int x1), some (.int x2), some (.int x3), some (.int (F245 M x2 x3)), none]) (st' := [.int ((M 67) ((F246 M x2 x3) : Int32).toNatClampNeg)]) H.1 rfl ?_
      replace H := H.2
      refine Ev.steps 1 (pc' := if ((M 67) ((F246 M x2 x3) : Int32).toNatClampNeg) = 0 then 80 else 149) (L' := [some (.ref 59), some (.int x1), some (.int x2), some (.int x3), some (.int (F245 M x2 x3)), none]) (st' := []) rfl ?_
      refine Ev_ite (fun hc => ?_) (fun hc => ?_)
      · replace H := H.1 hc
        refine Ev.steps 3 (pc' := 85) (L' := [some (.ref 59), some (.int x1), some (.int x2), some (.int x3), some (.int (F245 M x2 x3)), none]) (st' := [.int x2, .ref 69]) rfl ?_
        refine Ev.rd (i := x2) (n := 64) (pc' := 86) (L' := [some (.ref 59), some (.int x1), some (.int x2), some (.int x3), some (.int (F245 M x2 x3)), none]) (st' := [.int ((M 69) (x2 : Int32).toNatClampNeg)]) H.1 rfl ?_
        replace H := H.2
        refine Ev.steps 3 (pc' := 92) (L' := [some (.ref 59), some (.int x1), some (.int x2), some (.int x3), some (.int (F245 M x2 x3)), none]) (st' := [.int (F245 M x2 x3), .ref 69, .int ((M 69) (x2 : Int32).toNatClampNeg)]) rfl ?_
        refine Ev.rd (i := (F245 M x2 x3)) (n := 64) (pc' := 93) (L' := [some (.ref 59), some (.int x1), some (.int x2), some (.int x3), some (.int (F245 M x2 x3)), none]) (st' := [.int ((M 69) ((F245 M x2 x3) : Int32).toNatClampNeg), .int ((M 69) (x2 : Int32).toNatClampNeg)]) H.1 rfl ?_
        replace H := H.2
        refine Ev.steps 1 (pc' := if ((M 69) (x2 : Int32).toNatClampNeg) = ((M 69) ((F245 M x2 x3) : Int32).toNatClampNeg) then 149 else 96) (L' := [some (.ref 59), some (.int x1), some (.int x2), some (.int x3), some (.int (F245 M x2 x3)), none]) (st' := []) rfl ?_
        refine Ev_ite (fun hc => ?_) (fun hc => ?_)
        · replace H := H.1 hc
          refine Ev.steps 2 (pc' := 47) (L' := [some (.ref 59), some (.int x1), some (.int x2), some (.int (x3 + 1)), some (.int (F245 M x2 x3)), none]) (st' := []) rfl ?_
          exact Ev.weak [some (.ref 59), some (.int x1), some (.int x2), some (.int (x3 + 1)), none, none] (gw_leb_le ⟨rfl, rfl, rfl, rfl, trivial⟩) H
        · replace H := H.2 hc
          refine Ev.steps 3 (pc' := 101) (L' := [some (.ref 59), some (.int x1), some (.int x2), some (.int x3), some (.int (F245 M x2 x3)), none]) (st' := [.int x2, .ref 69]) rfl ?_
          refine Ev.rd (i := x2) (n := 64) (pc' := 102) (L' := [some (.ref 59), some (.int x1), some (.int x2), some (.int x3), some (.int (F245 M x2 x3)), none]) (st' := [.int ((M 69) (x2 : Int32).toNatClampNeg)]) H.1 rfl ?_
          replace H := H.2
          refine Ev.steps 3 (pc' := 108) (L' := [some (.ref 59), some (.int x1), some (.int x2), some (.int x3), some (.int (F245 M x2 x3)), none]) (st' := [.int (F245 M x2 x3), .ref 69, .int ((M 69) (x2 : Int32).toNatClampNeg)]) rfl ?_
          refine Ev.rd (i := (F245 M x2 x3)) (n := 64) (pc' := 109) (L' := [some (.ref 59), some (.int x1), some (.int x2), some (.int x3), some (.int (F245 M x2 x3)), none]) (st' := [.int ((M 69) ((F245 M x2 x3) : Int32).toNatClampNeg), .int ((M 69) (x2 : Int32).toNatClampNeg)]) H.1 rfl ?_
          replace H := H.2
          refine Ev.steps 1 (pc' := if ((M 69) ((F245 M x2 x3) : Int32).toNatClampNeg) ≤ ((M 69) (x2 : Int32).toNatClampNeg) then 121 else 112) (L' := [some (.ref 59), some (.int x1), some (.int x2), some (.int x3), some (.int (F245 M x2 x3)), none]) (st' := []) rfl ?_
          refine Ev_ite (fun hc => ?_) (fun hc => ?_)
          · replace H := H.1 hc
            refine Ev.steps 3 (pc' := 127) (L' := [some (.ref 59), some (.int x1), some (.int x2), some (.int x3), some (.int (F245 M x2 x3)), none]) (st' := [.int (F245 M x2 x3), .ref 69]) rfl ?_
            refine Ev.rd (i := (F245 M x2 x3)) (n := 64) (pc' := 128) (L' := [some (.ref 59), some (.int x1), some (.int x2), some (.int x3), some (.int (F245 M x2 x3)), none]) (st' := [.int ((M 69) ((F245 M x2 x3) : Int32).toNatClampNeg)]) H.1 rfl ?_
            replace H := H.2
            refine Ev.steps 5 (pc' := 137) (L' := [some (.ref 59), some (.int x1), some (.int x2), some (.int x3), some (.int (F245 M x2 x3)), some (.int ((M 69) ((F245 M x2 x3) : Int32).toNatClampNeg))]) (st' := [.int ((M 69) ((F245 M x2 x3) : Int32).toNatClampNeg), .int x2, .ref 69]) rfl ?_
            refine Ev.wr (a := 69) (g := (upd (M 69) (x2 : Int32).toNatClampNeg ((M 69) ((F245 M x2 x3) : Int32).toNatClampNeg))) (i := x2) (n := 64) (pc' := 138) (L' := [some (.ref 59), some (.int x1), some (.int x2), some (.int x3), some (.int (F245 M x2 x3)), some (.int ((M 69) ((F245 M x2 x3) : Int32).toNatClampNeg))]) (st' := []) (by decide) H.1 rfl ?_
            replace H := H.2
            refine Ev.steps 4 (pc' := 146) (L' := [some (.ref 59), some (.int x1), some (.int x2), some (.int x3), some (.int (F245 M x2 x3)), some (.int ((M 69) ((F245 M x2 x3) : Int32).toNatClampNeg))]) (st' := [.int ((M 69) ((F245 M x2 x3) : Int32).toNatClampNeg), .int (F245 M x2 x3), .ref 69]) rfl ?_
            refine Ev.wr (a := 69) (g := (upd (upd (M 69) (x2 : Int32).toNatClampNeg ((M 69) ((F245 M x2 x3) : Int32).toNatClampNeg)) ((F245 M x2 x3) : Int32).toNatClampNeg ((M 69) ((F245 M x2 x3) : Int32).toNatClampNeg))) (i := (F245 M x2 x3)) (n := 64) (pc' := 147) (L' := [some (.ref 59), some (.int x1), some (.int x2), some (.int x3), some (.int (F245 M x2 x3)), some (.int ((M 69) ((F245 M x2 x3) : Int32).toNatClampNeg))]) (st' := []) (by decide) H.1 rfl ?_
            replace H := H.2
            refine Ev.mto (M' := (up M 69 (upd (upd (M 69) (x2 : Int32).toNatClampNeg ((M 69) ((F245 M x2 x3) : Int32).toNatClampNeg)) ((F245 M x2 x3) : Int32).toNatClampNeg ((M 69) ((F245 M x2 x3) : Int32).toNatClampNeg)))) (by funext q9; unfold up; by_cases e9 : q9 = 69 <;> simp [e9]) ?_
            refine Ev.steps 4 (pc' := 47) (L' := [some (.ref 59), some (.int 1), some (.int x2), some (.int (x3 + 1)), some (.int (F245 M x2 x3)), some (.int ((M 69) ((F245 M x2 x3) : Int32).toNatClampNeg))]) (st' := []) rfl ?_
            exact Ev.weak [some (.ref 59), some (.int 1), some (.int x2), some (.int (x3 + 1)), none, none] (gw_leb_le ⟨rfl, rfl, rfl, rfl, trivial⟩) H
          · replace H := H.2 hc
            refine Ev.steps 3 (pc' := 117) (L' := [some (.ref 59), some (.int x1), some (.int x2), some (.int x3), some (.int (F245 M x2 x3)), none]) (st' := [.int x2, .ref 69]) rfl ?_
            refine Ev.rd (i := x2) (n := 64) (pc' := 118) (L' := [some (.ref 59), some (.int x1), some (.int x2), some (.int x3), some (.int (F245 M x2 x3)), none]) (st' := [.int ((M 69) (x2 : Int32).toNatClampNeg)]) H.1 rfl ?_
            replace H := H.2
            refine Ev.steps 6 (pc' := 137) (L' := [some (.ref 59), some (.int x1), some (.int x2), some (.int x3), some (.int (F245 M x2 x3)), some (.int ((M 69) (x2 : Int32).toNatClampNeg))]) (st' := [.int ((M 69) (x2 : Int32).toNatClampNeg), .int x2, .ref 69]) rfl ?_
            refine Ev.wr (a := 69) (g := (upd (M 69) (x2 : Int32).toNatClampNeg ((M 69) (x2 : Int32).toNatClampNeg))) (i := x2) (n := 64) (pc' := 138) (L' := [some (.ref 59), some (.int x1), some (.int x2), some (.int x3), some (.int (F245 M x2 x3)), some (.int ((M 69) (x2 : Int32).toNatClampNeg))]) (st' := []) (by decide) H.1 rfl ?_
            replace H := H.2
            refine Ev.steps 4 (pc' := 146) (L' := [some (.ref 59), some (.int x1), some (.int x2), some (.int x3), some (.int (F245 M x2 x3)), some (.int ((M 69) (x2 : Int32).toNatClampNeg))]) (st' := [.int ((M 69) (x2 : Int32).toNatClampNeg), .int (F245 M x2 x3), .ref 69]) rfl ?_
            refine Ev.wr (a := 69) (g := (upd (upd (M 69) (x2 : Int32).toNatClampNeg ((M 69) (x2 : Int32).toNatClampNeg)) ((F245 M x2 x3) : Int32).toNatClampNeg ((M 69) (x2 : Int32).toNatClampNeg))) (i := (F245 M x2 x3)) (n := 64) (pc' := 147) (L' := [some (.ref 59), some (.int x1), some (.int x2), some (.int x3), some (.int (F245 M x2 x3)), some (.int ((M 69) (x2 : Int32).toNatClampNeg))]) (st' := []) (by decide) H.1 rfl ?_
            replace H := H.2
            refine Ev.mto (M' := (up M 69 (upd (upd (M 69) (x2 : Int32).toNatClampNeg ((M 69) (x2 : Int32).toNatClampNeg)) ((F245 M x2 x3) : Int32).toNatClampNeg ((M 69) (x2 : Int32).toNatClampNeg)))) (by funext q9; unfold up; by_cases e9 : q9 = 69 <;> simp [e9]) ?_
            refine Ev.steps 4 (pc' := 47) (L' := [some (.ref 59), some (.int 1), some (.int x2), some (.int (x3 + 1)), some (.int (F245 M x2 x3)), some (.int ((M 69) (x2 : Int32).toNatClampNeg))]) (st' := []) rfl ?_
            exact Ev.weak [some (.ref 59), some (.int 1), some (.int x2), some (.int (x3 + 1)), none, none] (gw_leb_le ⟨rfl, rfl, rfl, rfl, trivial⟩) H
      · replace H := H.2 hc
        refine Ev.steps 2 (pc' := 47) (L' := [some (.ref 59), some (.int x1), some (.int x2), some (.int (x3 + 1)), some (.int (F245 M x2 x3)), none]) (st' := []) rfl ?_
        exact Ev.weak [some (.ref 59), some (.int x1), some (.int x2), some (.int (x3 + 1)), none, none] (gw_leb_le ⟨rfl, rfl, rfl, rfl, trivial⟩) H

