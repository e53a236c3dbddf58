/-! by program (wp.py): formulas that are enough -/
-- 224 GlassWiresModel hasEdge (II)Z
set_option maxRecDepth 20000 in
theorem w224_0 {E : gw_N} {M : Mem} {res : Option Value × gw_H} {x1 : Int32} {x2 : Int32} (H : Ev 2 224 5 [some (.ref 59), some (.int x1), some (.int x2), some (.int 0), some (.int 0)] [] (hs E M) res) : Ev 2 224 0 [some (.ref 59), some (.int x1), some (.int x2), none, none] [] (hs E M) res := by
  refine Ev.steps 4 (pc' := 5) (L' := [some (.ref 59), some (.int x1), some (.int x2), some (.int 0), some (.int 0)]) (st' := []) rfl ?_
  exact Ev.weak [some (.ref 59), some (.int x1), some (.int x2), some (.int 0), some (.int 0)] (gw_leb_le ⟨rfl, rfl, rfl, rfl, rfl, trivial⟩) H

set_option maxRecDepth 20000 in
theorem w224_5 {E : gw_N} {M : Mem} {res : Option Value × gw_H} {x1 : Int32} {x2 : Int32} {x3 : Int32} {x4 : Int32} (H : (inb x1 30 ∧ ((((M 63) (x1 : Int32).toNatClampNeg) ≤ x4 → (x3 &&& 1 = x3 ∧ res = (some (.int x3), hs E M))) ∧ (¬ ((M 63) (x1 : Int32).toNatClampNeg) ≤ x4 → ((x3 = 0 → (P223 M x1 x4 ∧ (((F223 M x1 x4) = x2 → Ev 2 224 5 [some (.ref 59), some (.int x1), some (.int x2), some (.int 1), some (.int (x4 + 1))] [] (hs E M) res) ∧ (¬ (F223 M x1 x4) = x2 → Ev 2 224 5 [some (.ref 59), some (.int x1), some (.int x2), some (.int 0), some (.int (x4 + 1))] [] (hs E M) res)))) ∧ (¬ x3 = 0 → Ev 2 224 5 [some (.ref 59), some (.int x1), some (.int x2), some (.int 1), some (.int (x4 + 1))] [] (hs E M) res)))))) : Ev 2 224 5 [some (.ref 59), some (.int x1), some (.int x2), some (.int x3), some (.int x4)] [] (hs E M) res := by
  refine Ev.steps 4 (pc' := 12) (L' := [some (.ref 59), some (.int x1), some (.int x2), some (.int x3), some (.int x4)]) (st' := [.int x1, .ref 63, .int x4]) rfl ?_
  refine Ev.rd (i := x1) (n := 30) (pc' := 13) (L' := [some (.ref 59), some (.int x1), some (.int x2), some (.int x3), some (.int x4)]) (st' := [.int ((M 63) (x1 : Int32).toNatClampNeg), .int x4]) H.1 rfl ?_
  replace H := H.2
  refine Ev.steps 1 (pc' := if ((M 63) (x1 : Int32).toNatClampNeg) ≤ x4 then 43 else 16) (L' := [some (.ref 59), some (.int x1), some (.int x2), some (.int x3), some (.int x4)]) (st' := []) rfl ?_
  refine Ev_ite (fun hc => ?_) (fun hc => ?_)
  · replace H := H.1 hc
    refine Ev.steps 1 (pc' := 44) (L' := [some (.ref 59), some (.int x1), some (.int x2), some (.int x3), some (.int x4)]) (st' := [.int x3]) rfl ?_
    obtain ⟨H1, H⟩ := H
    subst H
    exact Ev.ret (if_pos H1)
  · replace H := H.2 hc
    refine Ev.steps 2 (pc' := if x3 = 0 then 20 else 31) (L' := [some (.ref 59), some (.int x1), some (.int x2), some (.int x3), some (.int x4)]) (st' := []) rfl ?_
    refine Ev_ite (fun hc => ?_) (fun hc => ?_)
    · replace H := H.1 hc
      refine Ev.steps 3 (pc' := 24) (L' := [some (.ref 59), some (.int x1), some (.int x2), some (.int x3), some (.int x4)]) (st' := [.int x4, .int x1, .ref 59]) rfl ?_
      refine Ev.call (y := 223) (args := [.ref 59, .int x1, .int x4]) (rest := []) (r := some (.int (F223 M x1 x4))) rfl (s223 H.1) ?_
      replace H := H.2
      show Ev 2 224 27 [some (.ref 59), some (.int x1), some (.int x2), some (.int x3), some (.int x4)] [.int (F223 M x1 x4)] _ _
      refine Ev.steps 2 (pc' := if (F223 M x1 x4) = x2 then 31 else 35) (L' := [some (.ref 59), some (.int x1), some (.int x2), some (.int x3), some (.int x4)]) (st' := []) rfl ?_
      refine Ev_ite (fun hc => ?_) (fun hc => ?_)
      · replace H := H.1 hc
        refine Ev.steps 5 (pc' := 5) (L' := [some (.ref 59), some (.int x1), some (.int x2), some (.int 1), some (.int (x4 + 1))]) (st' := []) rfl ?_
        exact Ev.weak [some (.ref 59), some (.int x1), some (.int x2), some (.int 1), some (.int (x4 + 1))] (gw_leb_le ⟨rfl, rfl, rfl, rfl, rfl, trivial⟩) H
      · replace H := H.2 hc
        refine Ev.steps 4 (pc' := 5) (L' := [some (.ref 59), some (.int x1), some (.int x2), some (.int 0), some (.int (x4 + 1))]) (st' := []) rfl ?_
        exact Ev.weak [some (.ref 59), some (.int x1), some (.int x2), some (.int 0), some (.int (x4 + 1))] (gw_leb_le ⟨rfl, rfl, rfl, rfl, rfl, trivial⟩) H
    · replace H := H.2 hc
      refine Ev.steps 5 (pc' := 5) (L' := [some (.ref 59), some (.int x1), some (.int x2), some (.int 1), some (.int (x4 + 1))]) (st' := []) rfl ?_
      exact Ev.weak [some (.ref 59), some (.int x1), some (.int x2), some (.int 1), some (.int (x4 + 1))] (gw_leb_le ⟨rfl, rfl, rfl, rfl, rfl, trivial⟩) H

-- 227 GlassWiresModel stands (I)Z
set_option maxRecDepth 20000 in
theorem w227_0 {E : gw_N} {M : Mem} {res : Option Value × gw_H} {x1 : Int32} (H : (∃ (r1 : Int32), Rn 226 [.ref 59, .int x1] (hs E M) (some (.int r1)) (hs E M) ∧ ((r1 ≤ 0 → Ev 2 227 16 [some (.ref 59), some (.int x1), some (.int 0), some (.int 0), none] [] (hs E M) res) ∧ (¬ r1 ≤ 0 → Ev 2 227 16 [some (.ref 59), some (.int x1), some (.int 1), some (.int 0), none] [] (hs E M) res)))) : Ev 2 227 0 [some (.ref 59), some (.int x1), none, none, none] [] (hs E M) res := by
  refine Ev.steps 2 (pc' := 2) (L' := [some (.ref 59), some (.int x1), none, none, none]) (st' := [.int x1, .ref 59]) rfl ?_
  obtain ⟨r1, hr1, H⟩ := H
  refine Ev.call (y := 226) (args := [.ref 59, .int x1]) (rest := []) (r := (some (.int r1))) rfl hr1 ?_
  show Ev 2 227 5 [some (.ref 59), some (.int x1), none, none, none] [.int r1] _ _
  refine Ev.steps 1 (pc' := if r1 ≤ 0 then 12 else 8) (L' := [some (.ref 59), some (.int x1), none, none, none]) (st' := []) rfl ?_
  refine Ev_ite (fun hc => ?_) (fun hc => ?_)
  · replace H := H.1 hc
    refine Ev.steps 4 (pc' := 16) (L' := [some (.ref 59), some (.int x1), some (.int 0), some (.int 0), none]) (st' := []) rfl ?_
    exact Ev.weak [some (.ref 59), some (.int x1), some (.int 0), some (.int 0), none] (gw_leb_le ⟨rfl, rfl, rfl, rfl, trivial⟩) H
  · replace H := H.2 hc
    refine Ev.steps 5 (pc' := 16) (L' := [some (.ref 59), some (.int x1), some (.int 1), some (.int 0), none]) (st' := []) rfl ?_
    exact Ev.weak [some (.ref 59), some (.int x1), some (.int 1), some (.int 0), none] (gw_leb_le ⟨rfl, rfl, rfl, rfl, trivial⟩) H

set_option maxRecDepth 20000 in
theorem w227_16 {E : gw_N} {M : Mem} {res : Option Value × gw_H} {x1 : Int32} {x2 : Int32} {x3 : Int32} (H : (inb x1 30 ∧ ((((M 63) (x1 : Int32).toNatClampNeg) < x3 → (x2 &&& 1 = x2 ∧ res = (some (.int x2), hs E M))) ∧ (¬ ((M 63) (x1 : Int32).toNatClampNeg) < x3 → Ev 2 227 29 [some (.ref 59), some (.int x1), some (.int x2), some (.int x3), some (.int 0)] [] (hs E M) res)))) : Ev 2 227 16 [some (.ref 59), some (.int x1), some (.int x2), some (.int x3), none] [] (hs E M) res := by
  refine Ev.steps 4 (pc' := 22) (L' := [some (.ref 59), some (.int x1), some (.int x2), some (.int x3), none]) (st' := [.int x1, .ref 63, .int x3]) rfl ?_
  refine Ev.rd (i := x1) (n := 30) (pc' := 23) (L' := [some (.ref 59), some (.int x1), some (.int x2), some (.int x3), none]) (st' := [.int ((M 63) (x1 : Int32).toNatClampNeg), .int x3]) H.1 rfl ?_
  replace H := H.2
  refine Ev.steps 1 (pc' := if ((M 63) (x1 : Int32).toNatClampNeg) < x3 then 109 else 26) (L' := [some (.ref 59), some (.int x1), some (.int x2), some (.int x3), none]) (st' := []) rfl ?_
  refine Ev_ite (fun hc => ?_) (fun hc => ?_)
  · replace H := H.1 hc
    refine Ev.steps 1 (pc' := 110) (L' := [some (.ref 59), some (.int x1), some (.int x2), some (.int x3), none]) (st' := [.int x2]) rfl ?_
    obtain ⟨H1, H⟩ := H
    subst H
    exact Ev.ret (if_pos H1)
  · replace H := H.2 hc
    refine Ev.steps 2 (pc' := 29) (L' := [some (.ref 59), some (.int x1), some (.int x2), some (.int x3), some (.int 0)]) (st' := []) rfl ?_
    exact Ev.weak [some (.ref 59), some (.int x1), some (.int x2), some (.int x3), some (.int 0)] (gw_leb_le ⟨rfl, rfl, rfl, rfl, rfl, trivial⟩) H

set_option maxRecDepth 20000 in
theorem w227_29 {E : gw_N} {M : Mem} {res : Option Value × gw_H} {x1 : Int32} {x2 : Int32} {x3 : Int32} {x4 : Int32} (H : ((x3 ≤ x4 → Ev 2 227 16 [some (.ref 59), some (.int x1), some (.int x2), some (.int (x3 + 1)), none] [] (hs E M) res) ∧ (¬ x3 ≤ x4 → ((x2 = 0 → (inb ((25 * x1) + x3) 750 ∧ (inb ((25 * x1) + x4) 750 ∧ ((((M 61) (((25 * x1) + x3) : Int32).toNatClampNeg) = ((M 61) (((25 * x1) + x4) : Int32).toNatClampNeg) → (inb ((25 * x1) + x3) 750 ∧ (inb ((25 * x1) + x4) 750 ∧ ((((M 62) (((25 * x1) + x3) : Int32).toNatClampNeg) = ((M 62) (((25 * x1) + x4) : Int32).toNatClampNeg) → Ev 2 227 29 [some (.ref 59), some (.int x1), some (.int 1), some (.int x3), some (.int (x4 + 1))] [] (hs E M) res) ∧ (¬ ((M 62) (((25 * x1) + x3) : Int32).toNatClampNeg) = ((M 62) (((25 * x1) + x4) : Int32).toNatClampNeg) → Ev 2 227 29 [some (.ref 59), some (.int x1), some (.int 0), some (.int x3), some (.int (x4 + 1))] [] (hs E M) res))))) ∧ (¬ ((M 61) (((25 * x1) + x3) : Int32).toNatClampNeg) = ((M 61) (((25 * x1) + x4) : Int32).toNatClampNeg) → Ev 2 227 29 [some (.ref 59), some (.int x1), some (.int 0), some (.int x3), some (.int (x4 + 1))] [] (hs E M) res))))) ∧ (¬ x2 = 0 → Ev 2 227 29 [some (.ref 59), some (.int x1), some (.int 1), some (.int x3), some (.int (x4 + 1))] [] (hs E M) res))))) : Ev 2 227 29 [some (.ref 59), some (.int x1), some (.int x2), some (.int x3), some (.int x4)] [] (hs E M) res := by
  refine Ev.steps 3 (pc' := if x3 ≤ x4 then 103 else 35) (L' := [some (.ref 59), some (.int x1), some (.int x2), some (.int x3), some (.int x4)]) (st' := []) rfl ?_
  refine Ev_ite (fun hc => ?_) (fun hc => ?_)
  · replace H := H.1 hc
    refine Ev.steps 2 (pc' := 16) (L' := [some (.ref 59), some (.int x1), some (.int x2), some (.int (x3 + 1)), some (.int x4)]) (st' := []) rfl ?_
    exact Ev.weak [some (.ref 59), some (.int x1), some (.int x2), some (.int (x3 + 1)), none] (gw_leb_le ⟨rfl, rfl, rfl, rfl, trivial⟩) H
  · replace H := H.2 hc
    refine Ev.steps 2 (pc' := if x2 = 0 then 39 else 91) (L' := [some (.ref 59), some (.int x1), some (.int x2), some (.int x3), some (.int x4)]) (st' := []) rfl ?_
    refine Ev_ite (fun hc => ?_) (fun hc => ?_)
    · replace H := H.1 hc
      refine Ev.steps 7 (pc' := 49) (L' := [some (.ref 59), some (.int x1), some (.int x2), some (.int x3), some (.int x4)]) (st' := [.int ((25 * x1) + x3), .ref 61]) rfl ?_
      refine Ev.rd (i := ((25 * x1) + x3)) (n := 750) (pc' := 50) (L' := [some (.ref 59), some (.int x1), some (.int x2), some (.int x3), some (.int x4)]) (st' := [.int ((M 61) (((25 * x1) + x3) : Int32).toNatClampNeg)]) H.1 rfl ?_
      replace H := H.2
      refine Ev.steps 7 (pc' := 61) (L' := [some (.ref 59), some (.int x1), some (.int x2), some (.int x3), some (.int x4)]) (st' := [.int ((25 * x1) + x4), .ref 61, .int ((M 61) (((25 * x1) + x3) : Int32).toNatClampNeg)]) rfl ?_
      refine Ev.rd (i := ((25 * x1) + x4)) (n := 750) (pc' := 62) (L' := [some (.ref 59), some (.int x1), some (.int x2), some (.int x3), some (.int x4)]) (st' := [.int ((M 61) (((25 * x1) + x4) : Int32).toNatClampNeg), .int ((M 61) (((25 * x1) + x3) : Int32).toNatClampNeg)]) H.1 rfl ?_
      replace H := H.2
      refine Ev.steps 1 (pc' := if ((M 61) (((25 * x1) + x3) : Int32).toNatClampNeg) = ((M 61) (((25 * x1) + x4) : Int32).toNatClampNeg) then 65 else 95) (L' := [some (.ref 59), some (.int x1), some (.int x2), some (.int x3), some (.int x4)]) (st' := []) rfl ?_
      refine Ev_ite (fun hc => ?_) (fun hc => ?_)
      · replace H := H.1 hc
        refine Ev.steps 7 (pc' := 75) (L' := [some (.ref 59), some (.int x1), some (.int x2), some (.int x3), some (.int x4)]) (st' := [.int ((25 * x1) + x3), .ref 62]) rfl ?_
        refine Ev.rd (i := ((25 * x1) + x3)) (n := 750) (pc' := 76) (L' := [some (.ref 59), some (.int x1), some (.int x2), some (.int x3), some (.int x4)]) (st' := [.int ((M 62) (((25 * x1) + x3) : Int32).toNatClampNeg)]) H.1 rfl ?_
        replace H := H.2
        refine Ev.steps 7 (pc' := 87) (L' := [some (.ref 59), some (.int x1), some (.int x2), some (.int x3), some (.int x4)]) (st' := [.int ((25 * x1) + x4), .ref 62, .int ((M 62) (((25 * x1) + x3) : Int32).toNatClampNeg)]) rfl ?_
        refine Ev.rd (i := ((25 * x1) + x4)) (n := 750) (pc' := 88) (L' := [some (.ref 59), some (.int x1), some (.int x2), some (.int x3), some (.int x4)]) (st' := [.int ((M 62) (((25 * x1) + x4) : Int32).toNatClampNeg), .int ((M 62) (((25 * x1) + x3) : Int32).toNatClampNeg)]) H.1 rfl ?_
        replace H := H.2
        refine Ev.steps 1 (pc' := if ((M 62) (((25 * x1) + x3) : Int32).toNatClampNeg) = ((M 62) (((25 * x1) + x4) : Int32).toNatClampNeg) then 91 else 95) (L' := [some (.ref 59), some (.int x1), some (.int x2), some (.int x3), some (.int x4)]) (st' := []) rfl ?_
        refine Ev_ite (fun hc => ?_) (fun hc => ?_)
        · replace H := H.1 hc
          refine Ev.steps 5 (pc' := 29) (L' := [some (.ref 59), some (.int x1), some (.int 1), some (.int x3), some (.int (x4 + 1))]) (st' := []) rfl ?_
          exact Ev.weak [some (.ref 59), some (.int x1), some (.int 1), some (.int x3), some (.int (x4 + 1))] (gw_leb_le ⟨rfl, rfl, rfl, rfl, rfl, trivial⟩) H
        · replace H := H.2 hc
          refine Ev.steps 4 (pc' := 29) (L' := [some (.ref 59), some (.int x1), some (.int 0), some (.int x3), some (.int (x4 + 1))]) (st' := []) rfl ?_
          exact Ev.weak [some (.ref 59), some (.int x1), some (.int 0), some (.int x3), some (.int (x4 + 1))] (gw_leb_le ⟨rfl, rfl, rfl, rfl, rfl, trivial⟩) H
      · replace H := H.2 hc
        refine Ev.steps 4 (pc' := 29) (L' := [some (.ref 59), some (.int x1), some (.int 0), some (.int x3), some (.int (x4 + 1))]) (st' := []) rfl ?_
        exact Ev.weak [some (.ref 59), some (.int x1), some (.int 0), some (.int x3), some (.int (x4 + 1))] (gw_leb_le ⟨rfl, rfl, rfl, rfl, rfl, trivial⟩) H
    · replace H := H.2 hc
      refine Ev.steps 5 (pc' := 29) (L' := [some (.ref 59), some (.int x1), some (.int 1), some (.int x3), some (.int (x4 + 1))]) (st' := []) rfl ?_
      exact Ev.weak [some (.ref 59), some (.int x1), some (.int 1), some (.int x3), some (.int (x4 + 1))] (gw_leb_le ⟨rfl, rfl, rfl, rfl, rfl, trivial⟩) H

-- 229 GlassWiresModel touch (II)Z
set_option maxRecDepth 20000 in
theorem w229_0 {E : gw_N} {M : Mem} {res : Option Value × gw_H} {x1 : Int32} {x2 : Int32} (H : Ev 2 229 5 [some (.ref 59), some (.int x1), some (.int x2), some (.int 0), some (.int 0)] [] (hs E M) res) : Ev 2 229 0 [some (.ref 59), some (.int x1), some (.int x2), none, none] [] (hs E M) res := by
  refine Ev.steps 4 (pc' := 5) (L' := [some (.ref 59), some (.int x1), some (.int x2), some (.int 0), some (.int 0)]) (st' := []) rfl ?_
  exact Ev.weak [some (.ref 59), some (.int x1), some (.int x2), some (.int 0), some (.int 0)] (gw_leb_le ⟨rfl, rfl, rfl, rfl, rfl, trivial⟩) H

set_option maxRecDepth 20000 in
theorem w229_5 {E : gw_N} {M : Mem} {res : Option Value × gw_H} {x1 : Int32} {x2 : Int32} {x3 : Int32} {x4 : Int32} (H : (inb x1 30 ∧ ((((M 63) (x1 : Int32).toNatClampNeg) < x4 → (x3 &&& 1 = x3 ∧ res = (some (.int x3), hs E M))) ∧ (¬ ((M 63) (x1 : Int32).toNatClampNeg) < x4 → ((x3 = 0 → (inb ((25 * x1) + x4) 750 ∧ (inb ((25 * x1) + x4) 750 ∧ (∃ (r1 : Int32), Rn 228 [.ref 59, .int x2, .int ((M 61) (((25 * x1) + x4) : Int32).toNatClampNeg), .int ((M 62) (((25 * x1) + x4) : Int32).toNatClampNeg)] (hs E M) (some (.int r1)) (hs E M) ∧ ((r1 = 0 → Ev 2 229 5 [some (.ref 59), some (.int x1), some (.int x2), some (.int 0), some (.int (x4 + 1))] [] (hs E M) res) ∧ (¬ r1 = 0 → Ev 2 229 5 [some (.ref 59), some (.int x1), some (.int x2), some (.int 1), some (.int (x4 + 1))] [] (hs E M) res)))))) ∧ (¬ x3 = 0 → Ev 2 229 5 [some (.ref 59), some (.int x1), some (.int x2), some (.int 1), some (.int (x4 + 1))] [] (hs E M) res)))))) : Ev 2 229 5 [some (.ref 59), some (.int x1), some (.int x2), some (.int x3), some (.int x4)] [] (hs E M) res := by
  refine Ev.steps 4 (pc' := 12) (L' := [some (.ref 59), some (.int x1), some (.int x2), some (.int x3), some (.int x4)]) (st' := [.int x1, .ref 63, .int x4]) rfl ?_
  refine Ev.rd (i := x1) (n := 30) (pc' := 13) (L' := [some (.ref 59), some (.int x1), some (.int x2), some (.int x3), some (.int x4)]) (st' := [.int ((M 63) (x1 : Int32).toNatClampNeg), .int x4]) H.1 rfl ?_
  replace H := H.2
  refine Ev.steps 1 (pc' := if ((M 63) (x1 : Int32).toNatClampNeg) < x4 then 64 else 16) (L' := [some (.ref 59), some (.int x1), some (.int x2), some (.int x3), some (.int x4)]) (st' := []) rfl ?_
  refine Ev_ite (fun hc => ?_) (fun hc => ?_)
  · replace H := H.1 hc
    refine Ev.steps 1 (pc' := 65) (L' := [some (.ref 59), some (.int x1), some (.int x2), some (.int x3), some (.int x4)]) (st' := [.int x3]) rfl ?_
    obtain ⟨H1, H⟩ := H
    subst H
    exact Ev.ret (if_pos H1)
  · replace H := H.2 hc
    refine Ev.steps 2 (pc' := if x3 = 0 then 20 else 52) (L' := [some (.ref 59), some (.int x1), some (.int x2), some (.int x3), some (.int x4)]) (st' := []) rfl ?_
    refine Ev_ite (fun hc => ?_) (fun hc => ?_)
    · replace H := H.1 hc
      refine Ev.steps 9 (pc' := 33) (L' := [some (.ref 59), some (.int x1), some (.int x2), some (.int x3), some (.int x4)]) (st' := [.int ((25 * x1) + x4), .ref 61, .int x2, .ref 59]) rfl ?_
      refine Ev.rd (i := ((25 * x1) + x4)) (n := 750) (pc' := 34) (L' := [some (.ref 59), some (.int x1), some (.int x2), some (.int x3), some (.int x4)]) (st' := [.int ((M 61) (((25 * x1) + x4) : Int32).toNatClampNeg), .int x2, .ref 59]) H.1 rfl ?_
      replace H := H.2
      refine Ev.steps 7 (pc' := 45) (L' := [some (.ref 59), some (.int x1), some (.int x2), some (.int x3), some (.int x4)]) (st' := [.int ((25 * x1) + x4), .ref 62, .int ((M 61) (((25 * x1) + x4) : Int32).toNatClampNeg), .int x2, .ref 59]) rfl ?_
      refine Ev.rd (i := ((25 * x1) + x4)) (n := 750) (pc' := 46) (L' := [some (.ref 59), some (.int x1), some (.int x2), some (.int x3), some (.int x4)]) (st' := [.int ((M 62) (((25 * x1) + x4) : Int32).toNatClampNeg), .int ((M 61) (((25 * x1) + x4) : Int32).toNatClampNeg), .int x2, .ref 59]) H.1 rfl ?_
      replace H := H.2
      obtain ⟨r1, hr1, H⟩ := H
      refine Ev.call (y := 228) (args := [.ref 59, .int x2, .int ((M 61) (((25 * x1) + x4) : Int32).toNatClampNeg), .int ((M 62) (((25 * x1) + x4) : Int32).toNatClampNeg)]) (rest := []) (r := (some (.int r1))) rfl hr1 ?_
      show Ev 2 229 49 [some (.ref 59), some (.int x1), some (.int x2), some (.int x3), some (.int x4)] [.int r1] _ _
      refine Ev.steps 1 (pc' := if r1 = 0 then 56 else 52) (L' := [some (.ref 59), some (.int x1), some (.int x2), some (.int x3), some (.int x4)]) (st' := []) rfl ?_
      refine Ev_ite (fun hc => ?_) (fun hc => ?_)
      · replace H := H.1 hc
        refine Ev.steps 4 (pc' := 5) (L' := [some (.ref 59), some (.int x1), some (.int x2), some (.int 0), some (.int (x4 + 1))]) (st' := []) rfl ?_
        exact Ev.weak [some (.ref 59), some (.int x1), some (.int x2), some (.int 0), some (.int (x4 + 1))] (gw_leb_le ⟨rfl, rfl, rfl, rfl, rfl, trivial⟩) H
      · replace H := H.2 hc
        refine Ev.steps 5 (pc' := 5) (L' := [some (.ref 59), some (.int x1), some (.int x2), some (.int 1), some (.int (x4 + 1))]) (st' := []) rfl ?_
        exact Ev.weak [some (.ref 59), some (.int x1), some (.int x2), some (.int 1), some (.int (x4 + 1))] (gw_leb_le ⟨rfl, rfl, rfl, rfl, rfl, trivial⟩) H
    · replace H := H.2 hc
      refine Ev.steps 5 (pc' := 5) (L' := [some (.ref 59), some (.int x1), some (.int x2), some (.int 1), some (.int (x4 + 1))]) (st' := []) rfl ?_
      exact Ev.weak [some (.ref 59), some (.int x1), some (.int x2), some (.int 1), some (.int (x4 + 1))] (gw_leb_le ⟨rfl, rfl, rfl, rfl, rfl, trivial⟩) H

-- 234 GlassWiresModel isEdge (III)Z
set_option maxRecDepth 20000 in
theorem w234_0 {E : gw_N} {M : Mem} {res : Option Value × gw_H} {x1 : Int32} {x2 : Int32} {x3 : Int32} (H : ((x3 = 0 → (((F209 M (Int32.toInt64 x1) 0 (Int32.toInt64 (((M 59) 0) - 1))) = 0 → ((x3 = 1 → (((F209 M (Int32.toInt64 x1) 0 (Int32.toInt64 ((M 59) 0))) = 0 → res = (some (.int 0), hs E M)) ∧ (¬ (F209 M (Int32.toInt64 x1) 0 (Int32.toInt64 ((M 59) 0))) = 0 → (((F209 M (Int32.toInt64 x2) 0 (Int32.toInt64 (((M 59) 1) - 1))) = 0 → res = (some (.int 0), hs E M)) ∧ (¬ (F209 M (Int32.toInt64 x2) 0 (Int32.toInt64 (((M 59) 1) - 1))) = 0 → res = (some (.int 1), hs E M)))))) ∧ (¬ x3 = 1 → res = (some (.int 0), hs E M)))) ∧ (¬ (F209 M (Int32.toInt64 x1) 0 (Int32.toInt64 (((M 59) 0) - 1))) = 0 → (((F209 M (Int32.toInt64 x2) 0 (Int32.toInt64 ((M 59) 1))) = 0 → ((x3 = 1 → (((F209 M (Int32.toInt64 x1) 0 (Int32.toInt64 ((M 59) 0))) = 0 → res = (some (.int 0), hs E M)) ∧ (¬ (F209 M (Int32.toInt64 x1) 0 (Int32.toInt64 ((M 59) 0))) = 0 → (((F209 M (Int32.toInt64 x2) 0 (Int32.toInt64 (((M 59) 1) - 1))) = 0 → res = (some (.int 0), hs E M)) ∧ (¬ (F209 M (Int32.toInt64 x2) 0 (Int32.toInt64 (((M 59) 1) - 1))) = 0 → res = (some (.int 1), hs E M)))))) ∧ (¬ x3 = 1 → res = (some (.int 0), hs E M)))) ∧ (¬ (F209 M (Int32.toInt64 x2) 0 (Int32.toInt64 ((M 59) 1))) = 0 → res = (some (.int 1), hs E M)))))) ∧ (¬ x3 = 0 → ((x3 = 1 → (((F209 M (Int32.toInt64 x1) 0 (Int32.toInt64 ((M 59) 0))) = 0 → res = (some (.int 0), hs E M)) ∧ (¬ (F209 M (Int32.toInt64 x1) 0 (Int32.toInt64 ((M 59) 0))) = 0 → (((F209 M (Int32.toInt64 x2) 0 (Int32.toInt64 (((M 59) 1) - 1))) = 0 → res = (some (.int 0), hs E M)) ∧ (¬ (F209 M (Int32.toInt64 x2) 0 (Int32.toInt64 (((M 59) 1) - 1))) = 0 → res = (some (.int 1), hs E M)))))) ∧ (¬ x3 = 1 → res = (some (.int 0), hs E M)))))) : Ev 2 234 0 [some (.ref 59), some (.int x1), some (.int x2), some (.int x3)] [] (hs E M) res := by
  refine Ev.steps 2 (pc' := if x3 = 0 then 4 else 34) (L' := [some (.ref 59), some (.int x1), some (.int x2), some (.int x3)]) (st' := []) rfl ?_
  refine Ev_ite (fun hc => ?_) (fun hc => ?_)
  · replace H := H.1 hc
    refine Ev.steps 8 (pc' := 14) (L' := [some (.ref 59), some (.int x1), some (.int x2), some (.int x3)]) (st' := [.long (Int32.toInt64 (((M 59) 0) - 1)), .long 0, .long (Int32.toInt64 x1)]) rfl ?_
    refine Ev.call (y := 209) (args := [.long (Int32.toInt64 x1), .long 0, .long (Int32.toInt64 (((M 59) 0) - 1))]) (rest := []) (r := some (.int (F209 M (Int32.toInt64 x1) 0 (Int32.toInt64 (((M 59) 0) - 1))))) rfl (s209) ?_
    show Ev 2 234 17 [some (.ref 59), some (.int x1), some (.int x2), some (.int x3)] [.int (F209 M (Int32.toInt64 x1) 0 (Int32.toInt64 (((M 59) 0) - 1)))] _ _
    refine Ev.steps 1 (pc' := if (F209 M (Int32.toInt64 x1) 0 (Int32.toInt64 (((M 59) 0) - 1))) = 0 then 34 else 20) (L' := [some (.ref 59), some (.int x1), some (.int x2), some (.int x3)]) (st' := []) rfl ?_
    refine Ev_ite (fun hc => ?_) (fun hc => ?_)
    · replace H := H.1 hc
      refine Ev.steps 3 (pc' := if x3 = 1 then 39 else 73) (L' := [some (.ref 59), some (.int x1), some (.int x2), some (.int x3)]) (st' := []) rfl ?_
      refine Ev_ite (fun hc => ?_) (fun hc => ?_)
      · replace H := H.1 hc
        refine Ev.steps 6 (pc' := 47) (L' := [some (.ref 59), some (.int x1), some (.int x2), some (.int x3)]) (st' := [.long (Int32.toInt64 ((M 59) 0)), .long 0, .long (Int32.toInt64 x1)]) rfl ?_
        refine Ev.call (y := 209) (args := [.long (Int32.toInt64 x1), .long 0, .long (Int32.toInt64 ((M 59) 0))]) (rest := []) (r := some (.int (F209 M (Int32.toInt64 x1) 0 (Int32.toInt64 ((M 59) 0))))) rfl (s209) ?_
        show Ev 2 234 50 [some (.ref 59), some (.int x1), some (.int x2), some (.int x3)] [.int (F209 M (Int32.toInt64 x1) 0 (Int32.toInt64 ((M 59) 0)))] _ _
        refine Ev.steps 1 (pc' := if (F209 M (Int32.toInt64 x1) 0 (Int32.toInt64 ((M 59) 0))) = 0 then 73 else 53) (L' := [some (.ref 59), some (.int x1), some (.int x2), some (.int x3)]) (st' := []) rfl ?_
        refine Ev_ite (fun hc => ?_) (fun hc => ?_)
        · replace H := H.1 hc
          refine Ev.steps 1 (pc' := 74) (L' := [some (.ref 59), some (.int x1), some (.int x2), some (.int x3)]) (st' := [.int 0]) rfl ?_
          subst H
          exact Ev.ret rfl
        · replace H := H.2 hc
          refine Ev.steps 8 (pc' := 63) (L' := [some (.ref 59), some (.int x1), some (.int x2), some (.int x3)]) (st' := [.long (Int32.toInt64 (((M 59) 1) - 1)), .long 0, .long (Int32.toInt64 x2)]) rfl ?_
          refine Ev.call (y := 209) (args := [.long (Int32.toInt64 x2), .long 0, .long (Int32.toInt64 (((M 59) 1) - 1))]) (rest := []) (r := some (.int (F209 M (Int32.toInt64 x2) 0 (Int32.toInt64 (((M 59) 1) - 1))))) rfl (s209) ?_
          show Ev 2 234 66 [some (.ref 59), some (.int x1), some (.int x2), some (.int x3)] [.int (F209 M (Int32.toInt64 x2) 0 (Int32.toInt64 (((M 59) 1) - 1)))] _ _
          refine Ev.steps 1 (pc' := if (F209 M (Int32.toInt64 x2) 0 (Int32.toInt64 (((M 59) 1) - 1))) = 0 then 73 else 69) (L' := [some (.ref 59), some (.int x1), some (.int x2), some (.int x3)]) (st' := []) rfl ?_
          refine Ev_ite (fun hc => ?_) (fun hc => ?_)
          · replace H := H.1 hc
            refine Ev.steps 1 (pc' := 74) (L' := [some (.ref 59), some (.int x1), some (.int x2), some (.int x3)]) (st' := [.int 0]) rfl ?_
            subst H
            exact Ev.ret rfl
          · replace H := H.2 hc
            refine Ev.steps 2 (pc' := 74) (L' := [some (.ref 59), some (.int x1), some (.int x2), some (.int x3)]) (st' := [.int 1]) rfl ?_
            subst H
            exact Ev.ret rfl
      · replace H := H.2 hc
        refine Ev.steps 1 (pc' := 74) (L' := [some (.ref 59), some (.int x1), some (.int x2), some (.int x3)]) (st' := [.int 0]) rfl ?_
        subst H
        exact Ev.ret rfl
    · replace H := H.2 hc
      refine Ev.steps 6 (pc' := 28) (L' := [some (.ref 59), some (.int x1), some (.int x2), some (.int x3)]) (st' := [.long (Int32.toInt64 ((M 59) 1)), .long 0, .long (Int32.toInt64 x2)]) rfl ?_
      refine Ev.call (y := 209) (args := [.long (Int32.toInt64 x2), .long 0, .long (Int32.toInt64 ((M 59) 1))]) (rest := []) (r := some (.int (F209 M (Int32.toInt64 x2) 0 (Int32.toInt64 ((M 59) 1))))) rfl (s209) ?_
      show Ev 2 234 31 [some (.ref 59), some (.int x1), some (.int x2), some (.int x3)] [.int (F209 M (Int32.toInt64 x2) 0 (Int32.toInt64 ((M 59) 1)))] _ _
      refine Ev.steps 1 (pc' := if (F209 M (Int32.toInt64 x2) 0 (Int32.toInt64 ((M 59) 1))) = 0 then 34 else 69) (L' := [some (.ref 59), some (.int x1), some (.int x2), some (.int x3)]) (st' := []) rfl ?_
      refine Ev_ite (fun hc => ?_) (fun hc => ?_)
      · replace H := H.1 hc
        refine Ev.steps 3 (pc' := if x3 = 1 then 39 else 73) (L' := [some (.ref 59), some (.int x1), some (.int x2), some (.int x3)]) (st' := []) rfl ?_
        refine Ev_ite (fun hc => ?_) (fun hc => ?_)
        · replace H := H.1 hc
          refine Ev.steps 6 (pc' := 47) (L' := [some (.ref 59), some (.int x1), some (.int x2), some (.int x3)]) (st' := [.long (Int32.toInt64 ((M 59) 0)), .long 0, .long (Int32.toInt64 x1)]) rfl ?_
          refine Ev.call (y := 209) (args := [.long (Int32.toInt64 x1), .long 0, .long (Int32.toInt64 ((M 59) 0))]) (rest := []) (r := some (.int (F209 M (Int32.toInt64 x1) 0 (Int32.toInt64 ((M 59) 0))))) rfl (s209) ?_
          show Ev 2 234 50 [some (.ref 59), some (.int x1), some (.int x2), some (.int x3)] [.int (F209 M (Int32.toInt64 x1) 0 (Int32.toInt64 ((M 59) 0)))] _ _
          refine Ev.steps 1 (pc' := if (F209 M (Int32.toInt64 x1) 0 (Int32.toInt64 ((M 59) 0))) = 0 then 73 else 53) (L' := [some (.ref 59), some (.int x1), some (.int x2), some (.int x3)]) (st' := []) rfl ?_
          refine Ev_ite (fun hc => ?_) (fun hc => ?_)
          · replace H := H.1 hc
            refine Ev.steps 1 (pc' := 74) (L' := [some (.ref 59), some (.int x1), some (.int x2), some (.int x3)]) (st' := [.int 0]) rfl ?_
            subst H
            exact Ev.ret rfl
          · replace H := H.2 hc
            refine Ev.steps 8 (pc' := 63) (L' := [some (.ref 59), some (.int x1), some (.int x2), some (.int x3)]) (st' := [.long (Int32.toInt64 (((M 59) 1) - 1)), .long 0, .long (Int32.toInt64 x2)]) rfl ?_
            refine Ev.call (y := 209) (args := [.long (Int32.toInt64 x2), .long 0, .long (Int32.toInt64 (((M 59) 1) - 1))]) (rest := []) (r := some (.int (F209 M (Int32.toInt64 x2) 0 (Int32.toInt64 (((M 59) 1) - 1))))) rfl (s209) ?_
            show Ev 2 234 66 [some (.ref 59), some (.int x1), some (.int x2), some (.int x3)] [.int (F209 M (Int32.toInt64 x2) 0 (Int32.toInt64 (((M 59) 1) - 1)))] _ _
            refine Ev.steps 1 (pc' := if (F209 M (Int32.toInt64 x2) 0 (Int32.toInt64 (((M 59) 1) - 1))) = 0 then 73 else 69) (L' := [some (.ref 59), some (.int x1), some (.int x2), some (.int x3)]) (st' := []) rfl ?_
            refine Ev_ite (fun hc => ?_) (fun hc => ?_)
            · replace H := H.1 hc
              refine Ev.steps 1 (pc' := 74) (L' := [some (.ref 59), some (.int x1), some (.int x2), some (.int x3)]) (st' := [.int 0]) rfl ?_
              subst H
              exact Ev.ret rfl
            · replace H := H.2 hc
              refine Ev.steps 2 (pc' := 74) (L' := [some (.ref 59), some (.int x1), some (.int x2), some (.int x3)]) (st' := [.int 1]) rfl ?_
              subst H
              exact Ev.ret rfl
        · replace H := H.2 hc
          refine Ev.steps 1 (pc' := 74) (L' := [some (.ref 59), some (.int x1), some (.int x2), some (.int x3)]) (st' := [.int 0]) rfl ?_
          subst H
          exact Ev.ret rfl
      · replace H := H.2 hc
        refine Ev.steps 2 (pc' := 74) (L' := [some (.ref 59), some (.int x1), some (.int x2), some (.int x3)]) (st' := [.int 1]) rfl ?_
        subst H
        exact Ev.ret rfl
  · replace H := H.2 hc
    refine Ev.steps 3 (pc' := if x3 = 1 then 39 else 73) (L' := [some (.ref 59), some (.int x1), some (.int x2), some (.int x3)]) (st' := []) rfl ?_
    refine Ev_ite (fun hc => ?_) (fun hc => ?_)
    · replace H := H.1 hc
      refine Ev.steps 6 (pc' := 47) (L' := [some (.ref 59), some (.int x1), some (.int x2), some (.int x3)]) (st' := [.long (Int32.toInt64 ((M 59) 0)), .long 0, .long (Int32.toInt64 x1)]) rfl ?_
      refine Ev.call (y := 209) (args := [.long (Int32.toInt64 x1), .long 0, .long (Int32.toInt64 ((M 59) 0))]) (rest := []) (r := some (.int (F209 M (Int32.toInt64 x1) 0 (Int32.toInt64 ((M 59) 0))))) rfl (s209) ?_
      show Ev 2 234 50 [some (.ref 59), some (.int x1), some (.int x2), some (.int x3)] [.int (F209 M (Int32.toInt64 x1) 0 (Int32.toInt64 ((M 59) 0)))] _ _
      refine Ev.steps 1 (pc' := if (F209 M (Int32.toInt64 x1) 0 (Int32.toInt64 ((M 59) 0))) = 0 then 73 else 53) (L' := [some (.ref 59), some (.int x1), some (.int x2), some (.int x3)]) (st' := []) rfl ?_
      refine Ev_ite (fun hc => ?_) (fun hc => ?_)
      · replace H := H.1 hc
        refine Ev.steps 1 (pc' := 74) (L' := [some (.ref 59), some (.int x1), some (.int x2), some (.int x3)]) (st' := [.int 0]) rfl ?_
        subst H
        exact Ev.ret rfl
      · replace H := H.2 hc
        refine Ev.steps 8 (pc' := 63) (L' := [some (.ref 59), some (.int x1), some (.int x2), some (.int x3)]) (st' := [.long (Int32.toInt64 (((M 59) 1) - 1)), .long 0, .long (Int32.toInt64 x2)]) rfl ?_
        refine Ev.call (y := 209) (args := [.long (Int32.toInt64 x2), .long 0, .long (Int32.toInt64 (((M 59) 1) - 1))]) (rest := []) (r := some (.int (F209 M (Int32.toInt64 x2) 0 (Int32.toInt64 (((M 59) 1) - 1))))) rfl (s209) ?_
        show Ev 2 234 66 [some (.ref 59), some (.int x1), some (.int x2), some (.int x3)] [.int (F209 M (Int32.toInt64 x2) 0 (Int32.toInt64 (((M 59) 1) - 1)))] _ _
        refine Ev.steps 1 (pc' := if (F209 M (Int32.toInt64 x2) 0 (Int32.toInt64 (((M 59) 1) - 1))) = 0 then 73 else 69) (L' := [some (.ref 59), some (.int x1), some (.int x2), some (.int x3)]) (st' := []) rfl ?_
        refine Ev_ite (fun hc => ?_) (fun hc => ?_)
        · replace H := H.1 hc
          refine Ev.steps 1 (pc' := 74) (L' := [some (.ref 59), some (.int x1), some (.int x2), some (.int x3)]) (st' := [.int 0]) rfl ?_
          subst H
          exact Ev.ret rfl
        · replace H := H.2 hc
          refine Ev.steps 2 (pc' := 74) (L' := [some (.ref 59), some (.int x1), some (.int x2), some (.int x3)]) (st' := [.int 1]) rfl ?_
          subst H
          exact Ev.ret rfl
    · replace H := H.2 hc
      refine Ev.steps 1 (pc' := 74) (L' := [some (.ref 59), some (.int x1), some (.int x2), some (.int x3)]) (st' := [.int 0]) rfl ?_
      subst H
      exact Ev.ret rfl

def F234 (M : Mem) (x1 : Int32) (x2 : Int32) (x3 : Int32) : Int32 := (if x3 = 0 then (if (F209 M (Int32.toInt64 x1) 0 (Int32.toInt64 (((M 59) 0) - 1))) = 0 then (if x3 = 1 then (if (F209 M (Int32.toInt64 x1) 0 (Int32.toInt64 ((M 59) 0))) = 0 then 0 else (if (F209 M (Int32.toInt64 x2) 0 (Int32.toInt64 (((M 59) 1) - 1))) = 0 then 0 else 1)) else 0) else (if (F209 M (Int32.toInt64 x2) 0 (Int32.toInt64 ((M 59) 1))) = 0 then (if x3 = 1 then (if (F209 M (Int32.toInt64 x1) 0 (Int32.toInt64 ((M 59) 0))) = 0 then 0 else (if (F209 M (Int32.toInt64 x2) 0 (Int32.toInt64 (((M 59) 1) - 1))) = 0 then 0 else 1)) else 0) else 1)) else (if x3 = 1 then (if (F209 M (Int32.toInt64 x1) 0 (Int32.toInt64 ((M 59) 0))) = 0 then 0 else (if (F209 M (Int32.toInt64 x2) 0 (Int32.toInt64 (((M 59) 1) - 1))) = 0 then 0 else 1)) else 0))
theorem bb234 {M : Mem} {x1 : Int32} {x2 : Int32} {x3 : Int32} : F234 M x1 x2 x3 &&& 1 = F234 M x1 x2 x3 := by
  unfold F234
  (repeat' split) <;> first | rfl | decide
theorem s234 {E : gw_N} {M : Mem} {x1 : Int32} {x2 : Int32} {x3 : Int32} : Rn 234 [.ref 59, .int x1, .int x2, .int x3] (hs E M) (some (.int (F234 M x1 x2 x3))) (hs E M) :=
  w234_0 (⟨fun h0 => ⟨fun h1 => ⟨fun h2 => ⟨fun h3 => gw_reteq ((((if_pos h0).trans (if_pos h1)).trans (if_pos h2)).trans (if_pos h3)), fun h3 => ⟨fun h4 => gw_reteq (((((if_pos h0).trans (if_pos h1)).trans (if_pos h2)).trans (if_neg h3)).trans (if_pos h4)), fun h4 => gw_reteq (((((if_pos h0).trans (if_pos h1)).trans (if_pos h2)).trans (if_neg h3)).trans (if_neg h4))⟩⟩, fun h2 => gw_reteq (((if_pos h0).trans (if_pos h1)).trans (if_neg h2))⟩, fun h1 => ⟨fun h2 => ⟨fun h3 => ⟨fun h4 => gw_reteq (((((if_pos h0).trans (if_neg h1)).trans (if_pos h2)).trans (if_pos h3)).trans (if_pos h4)), fun h4 => ⟨fun h5 => gw_reteq ((((((if_pos h0).trans (if_neg h1)).trans (if_pos h2)).trans (if_pos h3)).trans (if_neg h4)).trans (if_pos h5)), fun h5 => gw_reteq ((((((if_pos h0).trans (if_neg h1)).trans (if_pos h2)).trans (if_pos h3)).trans (if_neg h4)).trans (if_neg h5))⟩⟩, fun h3 => gw_reteq ((((if_pos h0).trans (if_neg h1)).trans (if_pos h2)).trans (if_neg h3))⟩, fun h2 => gw_reteq (((if_pos h0).trans (if_neg h1)).trans (if_neg h2))⟩⟩, fun h0 => ⟨fun h1 => ⟨fun h2 => gw_reteq (((if_neg h0).trans (if_pos h1)).trans (if_pos h2)), fun h2 => ⟨fun h3 => gw_reteq ((((if_neg h0).trans (if_pos h1)).trans (if_neg h2)).trans (if_pos h3)), fun h3 => gw_reteq ((((if_neg h0).trans (if_pos h1)).trans (if_neg h2)).trans (if_neg h3))⟩⟩, fun h1 => gw_reteq ((if_neg h0).trans (if_neg h1))⟩⟩)
-- 237 GlassWiresModel findCover ()V
set_option maxRecDepth 20000 in
theorem w237_0 {E : gw_N} {M : Mem} {res : Option Value × gw_H}  (H : Ev 2 237 2 [some (.ref 59), some (.int 0), none, none, none] [] (hs E M) res) : Ev 2 237 0 [some (.ref 59), none, none, none, none] [] (hs E M) res := by
  refine Ev.steps 2 (pc' := 2) (L' := [some (.ref 59), some (.int 0), none, none, none]) (st' := []) rfl ?_
  exact Ev.weak [some (.ref 59), some (.int 0), none, none, none] (gw_leb_le ⟨rfl, rfl, trivial⟩) H

set_option maxRecDepth 20000 in
theorem w237_2 {E : gw_N} {M : Mem} {res : Option Value × gw_H} {x1 : Int32} (H : ((162 ≤ x1 → Ev 2 237 24 [some (.ref 59), some (.int 0), none, none, none] [] (hs E M) res) ∧ (¬ 162 ≤ x1 → (inb x1 162 ∧ Ev 2 237 2 [some (.ref 59), some (.int (x1 + 1)), none, none, none] [] (hs E (up M 67 (upd (M 67) (x1 : Int32).toNatClampNeg 0))) res)))) : Ev 2 237 2 [some (.ref 59), some (.int x1), none, none, none] [] (hs E M) res := by
  refine Ev.steps 3 (pc' := if 162 ≤ x1 then 22 else 9) (L' := [some (.ref 59), some (.int x1), none, none, none]) (st' := []) rfl ?_
  refine Ev_ite (fun hc => ?_) (fun hc => ?_)
  · replace H := H.1 hc
    refine Ev.steps 2 (pc' := 24) (L' := [some (.ref 59), some (.int 0), none, none, none]) (st' := []) rfl ?_
    exact Ev.weak [some (.ref 59), some (.int 0), none, none, none] (gw_leb_le ⟨rfl, rfl, trivial⟩) H
  · replace H := H.2 hc
    refine Ev.steps 4 (pc' := 15) (L' := [some (.ref 59), some (.int x1), none, none, none]) (st' := [.int 0, .int x1, .ref 67]) rfl ?_
    refine Ev.wr (a := 67) (g := (upd (M 67) (x1 : Int32).toNatClampNeg 0)) (i := x1) (n := 162) (pc' := 16) (L' := [some (.ref 59), some (.int x1), none, none, none]) (st' := []) (by decide) H.1 rfl ?_
    replace H := H.2
    refine Ev.steps 2 (pc' := 2) (L' := [some (.ref 59), some (.int (x1 + 1)), none, none, none]) (st' := []) rfl ?_
    exact Ev.weak [some (.ref 59), some (.int (x1 + 1)), none, none, none] (gw_leb_le ⟨rfl, rfl, trivial⟩) H

set_option maxRecDepth 20000 in
theorem w237_24 {E : gw_N} {M : Mem} {res : Option Value × gw_H} {x1 : Int32} (H : ((((M 59) 4) ≤ x1 → res = (none, hs E M)) ∧ (¬ ((M 59) 4) ≤ x1 → Ev 2 237 34 [some (.ref 59), some (.int x1), some (.int 0), none, none] [] (hs E M) res))) : Ev 2 237 24 [some (.ref 59), some (.int x1), none, none, none] [] (hs E M) res := by
  refine Ev.steps 4 (pc' := if ((M 59) 4) ≤ x1 then 131 else 32) (L' := [some (.ref 59), some (.int x1), none, none, none]) (st' := []) rfl ?_
  refine Ev_ite (fun hc => ?_) (fun hc => ?_)
  · replace H := H.1 hc
    subst H
    exact Ev.ret rfl
  · replace H := H.2 hc
    refine Ev.steps 2 (pc' := 34) (L' := [some (.ref 59), some (.int x1), some (.int 0), none, none]) (st' := []) rfl ?_
    exact Ev.weak [some (.ref 59), some (.int x1), some (.int 0), none, none] (gw_leb_le ⟨rfl, rfl, rfl, trivial⟩) H

set_option maxRecDepth 20000 in
theorem w237_34 {E : gw_N} {M : Mem} {res : Option Value × gw_H} {x1 : Int32} {x2 : Int32} (H : (inb x1 30 ∧ ((((M 63) (x1 : Int32).toNatClampNeg) ≤ x2 → Ev 2 237 24 [some (.ref 59), some (.int (x1 + 1)), none, none, none] [] (hs E M) res) ∧ (¬ ((M 63) (x1 : Int32).toNatClampNeg) ≤ x2 → (inb x1 30 ∧ ((((M 64) (x1 : Int32).toNatClampNeg) = 0 → Ev 2 237 24 [some (.ref 59), some (.int (x1 + 1)), none, none, none] [] (hs E M) res) ∧ (¬ ((M 64) (x1 : Int32).toNatClampNeg) = 0 → Ev 2 237 58 [some (.ref 59), some (.int x1), some (.int x2), some (.int 1), some (.int 0)] [] (hs E M) res))))))) : Ev 2 237 34 [some (.ref 59), some (.int x1), some (.int x2), none, none] [] (hs E M) res := by
  refine Ev.steps 4 (pc' := 40) (L' := [some (.ref 59), some (.int x1), some (.int x2), none, none]) (st' := [.int x1, .ref 63, .int x2]) rfl ?_
  refine Ev.rd (i := x1) (n := 30) (pc' := 41) (L' := [some (.ref 59), some (.int x1), some (.int x2), none, none]) (st' := [.int ((M 63) (x1 : Int32).toNatClampNeg), .int x2]) H.1 rfl ?_
  replace H := H.2
  refine Ev.steps 1 (pc' := if ((M 63) (x1 : Int32).toNatClampNeg) ≤ x2 then 125 else 44) (L' := [some (.ref 59), some (.int x1), some (.int x2), none, none]) (st' := []) rfl ?_
  refine Ev_ite (fun hc => ?_) (fun hc => ?_)
  · replace H := H.1 hc
    refine Ev.steps 2 (pc' := 24) (L' := [some (.ref 59), some (.int (x1 + 1)), some (.int x2), none, none]) (st' := []) rfl ?_
    exact Ev.weak [some (.ref 59), some (.int (x1 + 1)), none, none, none] (gw_leb_le ⟨rfl, rfl, trivial⟩) H
  · replace H := H.2 hc
    refine Ev.steps 3 (pc' := 49) (L' := [some (.ref 59), some (.int x1), some (.int x2), none, none]) (st' := [.int x1, .ref 64]) rfl ?_
    refine Ev.rd (i := x1) (n := 30) (pc' := 50) (L' := [some (.ref 59), some (.int x1), some (.int x2), none, none]) (st' := [.int ((M 64) (x1 : Int32).toNatClampNeg)]) H.1 rfl ?_
    replace H := H.2
    refine Ev.steps 1 (pc' := if ((M 64) (x1 : Int32).toNatClampNeg) = 0 then 125 else 53) (L' := [some (.ref 59), some (.int x1), some (.int x2), none, none]) (st' := []) rfl ?_
    refine Ev_ite (fun hc => ?_) (fun hc => ?_)
    · replace H := H.1 hc
      refine Ev.steps 2 (pc' := 24) (L' := [some (.ref 59), some (.int (x1 + 1)), some (.int x2), none, none]) (st' := []) rfl ?_
      exact Ev.weak [some (.ref 59), some (.int (x1 + 1)), none, none, none] (gw_leb_le ⟨rfl, rfl, trivial⟩) H
    · replace H := H.2 hc
      refine Ev.steps 4 (pc' := 58) (L' := [some (.ref 59), some (.int x1), some (.int x2), some (.int 1), some (.int 0)]) (st' := []) rfl ?_
      exact Ev.weak [some (.ref 59), some (.int x1), some (.int x2), some (.int 1), some (.int 0)] (gw_leb_le ⟨rfl, rfl, rfl, rfl, rfl, trivial⟩) H

set_option maxRecDepth 20000 in
theorem w237_58 {E : gw_N} {M : Mem} {res : Option Value × gw_H} {x1 : Int32} {x2 : Int32} {x3 : Int32} {x4 : Int32} (H : ((x2 ≤ x4 → (P223 M x1 x2 ∧ (inb (F223 M x1 x2) 162 ∧ ((x3 = 0 → (inb (F223 M x1 x2) 162 ∧ Ev 2 237 34 [some (.ref 59), some (.int x1), some (.int (x2 + 1)), none, none] [] (hs E (up M 67 (upd (M 67) ((F223 M x1 x2) : Int32).toNatClampNeg (((M 67) ((F223 M x1 x2) : Int32).toNatClampNeg) + 0)))) res)) ∧ (¬ x3 = 0 → (inb (F223 M x1 x2) 162 ∧ Ev 2 237 34 [some (.ref 59), some (.int x1), some (.int (x2 + 1)), none, none] [] (hs E (up M 67 (upd (M 67) ((F223 M x1 x2) : Int32).toNatClampNeg (((M 67) ((F223 M x1 x2) : Int32).toNatClampNeg) + 1)))) res)))))) ∧ (¬ x2 ≤ x4 → ((x3 = 0 → Ev 2 237 58 [some (.ref 59), some (.int x1), some (.int x2), some (.int 0), some (.int (x4 + 1))] [] (hs E M) res) ∧ (¬ x3 = 0 → (P223 M x1 x4 ∧ (P223 M x1 x2 ∧ (((F223 M x1 x4) = (F223 M x1 x2) → Ev 2 237 58 [some (.ref 59), some (.int x1), some (.int x2), some (.int 0), some (.int (x4 + 1))] [] (hs E M) res) ∧ (¬ (F223 M x1 x4) = (F223 M x1 x2) → Ev 2 237 58 [some (.ref 59), some (.int x1), some (.int x2), some (.int 1), some (.int (x4 + 1))] [] (hs E M) res))))))))) : Ev 2 237 58 [some (.ref 59), some (.int x1), some (.int x2), some (.int x3), some (.int x4)] [] (hs E M) res := by
  refine Ev.steps 3 (pc' := if x2 ≤ x4 then 96 else 64) (L' := [some (.ref 59), some (.int x1), some (.int x2), some (.int x3), some (.int x4)]) (st' := []) rfl ?_
  refine Ev_ite (fun hc => ?_) (fun hc => ?_)
  · replace H := H.1 hc
    refine Ev.steps 5 (pc' := 103) (L' := [some (.ref 59), some (.int x1), some (.int x2), some (.int x3), some (.int x4)]) (st' := [.int x2, .int x1, .ref 59, .ref 67]) rfl ?_
    refine Ev.call (y := 223) (args := [.ref 59, .int x1, .int x2]) (rest := [.ref 67]) (r := some (.int (F223 M x1 x2))) rfl (s223 H.1) ?_
    replace H := H.2
    show Ev 2 237 106 [some (.ref 59), some (.int x1), some (.int x2), some (.int x3), some (.int x4)] [.int (F223 M x1 x2), .ref 67] _ _
    refine Ev.steps 1 (pc' := 107) (L' := [some (.ref 59), some (.int x1), some (.int x2), some (.int x3), some (.int x4)]) (st' := [.int (F223 M x1 x2), .ref 67, .int (F223 M x1 x2), .ref 67]) rfl ?_
    refine Ev.rd (i := (F223 M x1 x2)) (n := 162) (pc' := 108) (L' := [some (.ref 59), some (.int x1), some (.int x2), some (.int x3), some (.int x4)]) (st' := [.int ((M 67) ((F223 M x1 x2) : Int32).toNatClampNeg), .int (F223 M x1 x2), .ref 67]) H.1 rfl ?_
    replace H := H.2
    refine Ev.steps 2 (pc' := if x3 = 0 then 116 else 112) (L' := [some (.ref 59), some (.int x1), some (.int x2), some (.int x3), some (.int x4)]) (st' := [.int ((M 67) ((F223 M x1 x2) : Int32).toNatClampNeg), .int (F223 M x1 x2), .ref 67]) rfl ?_
    refine Ev_ite (fun hc => ?_) (fun hc => ?_)
    · replace H := H.1 hc
      refine Ev.steps 2 (pc' := 118) (L' := [some (.ref 59), some (.int x1), some (.int x2), some (.int x3), some (.int x4)]) (st' := [.int (((M 67) ((F223 M x1 x2) : Int32).toNatClampNeg) + 0), .int (F223 M x1 x2), .ref 67]) rfl ?_
      refine Ev.wr (a := 67) (g := (upd (M 67) ((F223 M x1 x2) : Int32).toNatClampNeg (((M 67) ((F223 M x1 x2) : Int32).toNatClampNeg) + 0))) (i := (F223 M x1 x2)) (n := 162) (pc' := 119) (L' := [some (.ref 59), some (.int x1), some (.int x2), some (.int x3), some (.int x4)]) (st' := []) (by decide) H.1 rfl ?_
      replace H := H.2
      refine Ev.steps 2 (pc' := 34) (L' := [some (.ref 59), some (.int x1), some (.int (x2 + 1)), some (.int x3), some (.int x4)]) (st' := []) rfl ?_
      exact Ev.weak [some (.ref 59), some (.int x1), some (.int (x2 + 1)), none, none] (gw_leb_le ⟨rfl, rfl, rfl, trivial⟩) H
    · replace H := H.2 hc
      refine Ev.steps 3 (pc' := 118) (L' := [some (.ref 59), some (.int x1), some (.int x2), some (.int x3), some (.int x4)]) (st' := [.int (((M 67) ((F223 M x1 x2) : Int32).toNatClampNeg) + 1), .int (F223 M x1 x2), .ref 67]) rfl ?_
      refine Ev.wr (a := 67) (g := (upd (M 67) ((F223 M x1 x2) : Int32).toNatClampNeg (((M 67) ((F223 M x1 x2) : Int32).toNatClampNeg) + 1))) (i := (F223 M x1 x2)) (n := 162) (pc' := 119) (L' := [some (.ref 59), some (.int x1), some (.int x2), some (.int x3), some (.int x4)]) (st' := []) (by decide) H.1 rfl ?_
      replace H := H.2
      refine Ev.steps 2 (pc' := 34) (L' := [some (.ref 59), some (.int x1), some (.int (x2 + 1)), some (.int x3), some (.int x4)]) (st' := []) rfl ?_
      exact Ev.weak [some (.ref 59), some (.int x1), some (.int (x2 + 1)), none, none] (gw_leb_le ⟨rfl, rfl, rfl, trivial⟩) H
  · replace H := H.2 hc
    refine Ev.steps 2 (pc' := if x3 = 0 then 88 else 68) (L' := [some (.ref 59), some (.int x1), some (.int x2), some (.int x3), some (.int x4)]) (st' := []) rfl ?_
    refine Ev_ite (fun hc => ?_) (fun hc => ?_)
    · replace H := H.1 hc
      refine Ev.steps 4 (pc' := 58) (L' := [some (.ref 59), some (.int x1), some (.int x2), some (.int 0), some (.int (x4 + 1))]) (st' := []) rfl ?_
      exact Ev.weak [some (.ref 59), some (.int x1), some (.int x2), some (.int 0), some (.int (x4 + 1))] (gw_leb_le ⟨rfl, rfl, rfl, rfl, rfl, trivial⟩) H
    · replace H := H.2 hc
      refine Ev.steps 3 (pc' := 72) (L' := [some (.ref 59), some (.int x1), some (.int x2), some (.int x3), some (.int x4)]) (st' := [.int x4, .int x1, .ref 59]) rfl ?_
      refine Ev.call (y := 223) (args := [.ref 59, .int x1, .int x4]) (rest := []) (r := some (.int (F223 M x1 x4))) rfl (s223 H.1) ?_
      replace H := H.2
      show Ev 2 237 75 [some (.ref 59), some (.int x1), some (.int x2), some (.int x3), some (.int x4)] [.int (F223 M x1 x4)] _ _
      refine Ev.steps 3 (pc' := 78) (L' := [some (.ref 59), some (.int x1), some (.int x2), some (.int x3), some (.int x4)]) (st' := [.int x2, .int x1, .ref 59, .int (F223 M x1 x4)]) rfl ?_
      refine Ev.call (y := 223) (args := [.ref 59, .int x1, .int x2]) (rest := [.int (F223 M x1 x4)]) (r := some (.int (F223 M x1 x2))) rfl (s223 H.1) ?_
      replace H := H.2
      show Ev 2 237 81 [some (.ref 59), some (.int x1), some (.int x2), some (.int x3), some (.int x4)] [.int (F223 M x1 x2), .int (F223 M x1 x4)] _ _
      refine Ev.steps 1 (pc' := if (F223 M x1 x4) = (F223 M x1 x2) then 88 else 84) (L' := [some (.ref 59), some (.int x1), some (.int x2), some (.int x3), some (.int x4)]) (st' := []) rfl ?_
      refine Ev_ite (fun hc => ?_) (fun hc => ?_)
      · replace H := H.1 hc
        refine Ev.steps 4 (pc' := 58) (L' := [some (.ref 59), some (.int x1), some (.int x2), some (.int 0), some (.int (x4 + 1))]) (st' := []) rfl ?_
        exact Ev.weak [some (.ref 59), some (.int x1), some (.int x2), some (.int 0), some (.int (x4 + 1))] (gw_leb_le ⟨rfl, rfl, rfl, rfl, rfl, trivial⟩) H
      · replace H := H.2 hc
        refine Ev.steps 5 (pc' := 58) (L' := [some (.ref 59), some (.int x1), some (.int x2), some (.int 1), some (.int (x4 + 1))]) (st' := []) rfl ?_
        exact Ev.weak [some (.ref 59), some (.int x1), some (.int x2), some (.int 1), some (.int (x4 + 1))] (gw_leb_le ⟨rfl, rfl, rfl, rfl, rfl, trivial⟩) H

-- 241 GlassWiresModel isJoint (II)Z
set_option maxRecDepth 20000 in
theorem w241_0 {E : gw_N} {M : Mem} {res : Option Value × gw_H} {x1 : Int32} {x2 : Int32} (H : Ev 2 241 5 [some (.ref 59), some (.int x1), some (.int x2), some (.int 0), some (.int 0)] [] (hs E M) res) : Ev 2 241 0 [some (.ref 59), some (.int x1), some (.int x2), none, none] [] (hs E M) res := by
  refine Ev.steps 4 (pc' := 5) (L' := [some (.ref 59), some (.int x1), some (.int x2), some (.int 0), some (.int 0)]) (st' := []) rfl ?_
  exact Ev.weak [some (.ref 59), some (.int x1), some (.int x2), some (.int 0), some (.int 0)] (gw_leb_le ⟨rfl, rfl, rfl, rfl, rfl, trivial⟩) H

set_option maxRecDepth 20000 in
theorem w241_5 {E : gw_N} {M : Mem} {res : Option Value × gw_H} {x1 : Int32} {x2 : Int32} {x3 : Int32} {x4 : Int32} (H : ((((M 59) 4) ≤ x4 → ((x3 ≤ 1 → res = (some (.int 0), hs E M)) ∧ (¬ x3 ≤ 1 → res = (some (.int 1), hs E M)))) ∧ (¬ ((M 59) 4) ≤ x4 → (inb x4 30 ∧ ((((M 64) (x4 : Int32).toNatClampNeg) = 0 → Ev 2 241 5 [some (.ref 59), some (.int x1), some (.int x2), some (.int (x3 + 0)), some (.int (x4 + 1))] [] (hs E M) res) ∧ (¬ ((M 64) (x4 : Int32).toNatClampNeg) = 0 → (∃ (r1 : Int32), Rn 228 [.ref 59, .int x4, .int x1, .int x2] (hs E M) (some (.int r1)) (hs E M) ∧ ((r1 = 0 → Ev 2 241 5 [some (.ref 59), some (.int x1), some (.int x2), some (.int (x3 + 0)), some (.int (x4 + 1))] [] (hs E M) res) ∧ (¬ r1 = 0 → Ev 2 241 5 [some (.ref 59), some (.int x1), some (.int x2), some (.int (x3 + 1)), some (.int (x4 + 1))] [] (hs E M) res))))))))) : Ev 2 241 5 [some (.ref 59), some (.int x1), some (.int x2), some (.int x3), some (.int x4)] [] (hs E M) res := by
  refine Ev.steps 4 (pc' := if ((M 59) 4) ≤ x4 then 49 else 14) (L' := [some (.ref 59), some (.int x1), some (.int x2), some (.int x3), some (.int x4)]) (st' := []) rfl ?_
  refine Ev_ite (fun hc => ?_) (fun hc => ?_)
  · replace H := H.1 hc
    refine Ev.steps 3 (pc' := if x3 ≤ 1 then 58 else 54) (L' := [some (.ref 59), some (.int x1), some (.int x2), some (.int x3), some (.int x4)]) (st' := []) rfl ?_
    refine Ev_ite (fun hc => ?_) (fun hc => ?_)
    · replace H := H.1 hc
      refine Ev.steps 1 (pc' := 59) (L' := [some (.ref 59), some (.int x1), some (.int x2), some (.int x3), some (.int x4)]) (st' := [.int 0]) rfl ?_
      subst H
      exact Ev.ret rfl
    · replace H := H.2 hc
      refine Ev.steps 2 (pc' := 59) (L' := [some (.ref 59), some (.int x1), some (.int x2), some (.int x3), some (.int x4)]) (st' := [.int 1]) rfl ?_
      subst H
      exact Ev.ret rfl
  · replace H := H.2 hc
    refine Ev.steps 4 (pc' := 21) (L' := [some (.ref 59), some (.int x1), some (.int x2), some (.int x3), some (.int x4)]) (st' := [.int x4, .ref 64, .int x3]) rfl ?_
    refine Ev.rd (i := x4) (n := 30) (pc' := 22) (L' := [some (.ref 59), some (.int x1), some (.int x2), some (.int x3), some (.int x4)]) (st' := [.int ((M 64) (x4 : Int32).toNatClampNeg), .int x3]) H.1 rfl ?_
    replace H := H.2
    refine Ev.steps 1 (pc' := if ((M 64) (x4 : Int32).toNatClampNeg) = 0 then 40 else 25) (L' := [some (.ref 59), some (.int x1), some (.int x2), some (.int x3), some (.int x4)]) (st' := [.int x3]) rfl ?_
    refine Ev_ite (fun hc => ?_) (fun hc => ?_)
    · replace H := H.1 hc
      refine Ev.steps 5 (pc' := 5) (L' := [some (.ref 59), some (.int x1), some (.int x2), some (.int (x3 + 0)), some (.int (x4 + 1))]) (st' := []) rfl ?_
      exact Ev.weak [some (.ref 59), some (.int x1), some (.int x2), some (.int (x3 + 0)), some (.int (x4 + 1))] (gw_leb_le ⟨rfl, rfl, rfl, rfl, rfl, trivial⟩) H
    · replace H := H.2 hc
      refine Ev.steps 4 (pc' := 30) (L' := [some (.ref 59), some (.int x1), some (.int x2), some (.int x3), some (.int x4)]) (st' := [.int x2, .int x1, .int x4, .ref 59, .int x3]) rfl ?_
      obtain ⟨r1, hr1, H⟩ := H
      refine Ev.call (y := 228) (args := [.ref 59, .int x4, .int x1, .int x2]) (rest := [.int x3]) (r := (some (.int r1))) rfl hr1 ?_
      show Ev 2 241 33 [some (.ref 59), some (.int x1), some (.int x2), some (.int x3), some (.int x4)] [.int r1, .int x3] _ _
      refine Ev.steps 1 (pc' := if r1 = 0 then 40 else 36) (L' := [some (.ref 59), some (.int x1), some (.int x2), some (.int x3), some (.int x4)]) (st' := [.int x3]) rfl ?_
      refine Ev_ite (fun hc => ?_) (fun hc => ?_)
      · replace H := H.1 hc
        refine Ev.steps 5 (pc' := 5) (L' := [some (.ref 59), some (.int x1), some (.int x2), some (.int (x3 + 0)), some (.int (x4 + 1))]) (st' := []) rfl ?_
        exact Ev.weak [some (.ref 59), some (.int x1), some (.int x2), some (.int (x3 + 0)), some (.int (x4 + 1))] (gw_leb_le ⟨rfl, rfl, rfl, rfl, rfl, trivial⟩) H
      · replace H := H.2 hc
        refine Ev.steps 6 (pc' := 5) (L' := [some (.ref 59), some (.int x1), some (.int x2), some (.int (x3 + 1)), some (.int (x4 + 1))]) (st' := []) rfl ?_
        exact Ev.weak [some (.ref 59), some (.int x1), some (.int x2), some (.int (x3 + 1)), some (.int (x4 + 1))] (gw_leb_le ⟨rfl, rfl, rfl, rfl, rfl, trivial⟩) H

-- 244 GlassWiresModel isField (II)Z
set_option maxRecDepth 20000 in
theorem w244_0 {E : gw_N} {M : Mem} {res : Option Value × gw_H} {x1 : Int32} {x2 : Int32} (H : (((F209 M (Int32.toInt64 x1) 0 (Int32.toInt64 (((M 59) 0) - 1))) = 0 → res = (some (.int 0), hs E M)) ∧ (¬ (F209 M (Int32.toInt64 x1) 0 (Int32.toInt64 (((M 59) 0) - 1))) = 0 → (((F209 M (Int32.toInt64 x2) 0 (Int32.toInt64 (((M 59) 1) - 1))) = 0 → res = (some (.int 0), hs E M)) ∧ (¬ (F209 M (Int32.toInt64 x2) 0 (Int32.toInt64 (((M 59) 1) - 1))) = 0 → res = (some (.int 1), hs E M)))))) : Ev 2 244 0 [some (.ref 59), some (.int x1), some (.int x2)] [] (hs E M) res := by
  refine Ev.steps 8 (pc' := 10) (L' := [some (.ref 59), some (.int x1), some (.int x2)]) (st' := [.long (Int32.toInt64 (((M 59) 0) - 1)), .long 0, .long (Int32.toInt64 x1)]) rfl ?_
  refine Ev.call (y := 209) (args := [.long (Int32.toInt64 x1), .long 0, .long (Int32.toInt64 (((M 59) 0) - 1))]) (rest := []) (r := some (.int (F209 M (Int32.toInt64 x1) 0 (Int32.toInt64 (((M 59) 0) - 1))))) rfl (s209) ?_
  show Ev 2 244 13 [some (.ref 59), some (.int x1), some (.int x2)] [.int (F209 M (Int32.toInt64 x1) 0 (Int32.toInt64 (((M 59) 0) - 1)))] _ _
  refine Ev.steps 1 (pc' := if (F209 M (Int32.toInt64 x1) 0 (Int32.toInt64 (((M 59) 0) - 1))) = 0 then 36 else 16) (L' := [some (.ref 59), some (.int x1), some (.int x2)]) (st' := []) rfl ?_
  refine Ev_ite (fun hc => ?_) (fun hc => ?_)
  · replace H := H.1 hc
    refine Ev.steps 1 (pc' := 37) (L' := [some (.ref 59), some (.int x1), some (.int x2)]) (st' := [.int 0]) rfl ?_
    subst H
    exact Ev.ret rfl
  · replace H := H.2 hc
    refine Ev.steps 8 (pc' := 26) (L' := [some (.ref 59), some (.int x1), some (.int x2)]) (st' := [.long (Int32.toInt64 (((M 59) 1) - 1)), .long 0, .long (Int32.toInt64 x2)]) rfl ?_
    refine Ev.call (y := 209) (args := [.long (Int32.toInt64 x2), .long 0, .long (Int32.toInt64 (((M 59) 1) - 1))]) (rest := []) (r := some (.int (F209 M (Int32.toInt64 x2) 0 (Int32.toInt64 (((M 59) 1) - 1))))) rfl (s209) ?_
    show Ev 2 244 29 [some (.ref 59), some (.int x1), some (.int x2)] [.int (F209 M (Int32.toInt64 x2) 0 (Int32.toInt64 (((M 59) 1) - 1)))] _ _
    refine Ev.steps 1 (pc' := if (F209 M (Int32.toInt64 x2) 0 (Int32.toInt64 (((M 59) 1) - 1))) = 0 then 36 else 32) (L' := [some (.ref 59), some (.int x1), some (.int x2)]) (st' := []) rfl ?_
    refine Ev_ite (fun hc => ?_) (fun hc => ?_)
    · replace H := H.1 hc
      refine Ev.steps 1 (pc' := 37) (L' := [some (.ref 59), some (.int x1), some (.int x2)]) (st' := [.int 0]) rfl ?_
      subst H
      exact Ev.ret rfl
    · replace H := H.2 hc
      refine Ev.steps 2 (pc' := 37) (L' := [some (.ref 59), some (.int x1), some (.int x2)]) (st' := [.int 1]) rfl ?_
      subst H
      exact Ev.ret rfl

def F244 (M : Mem) (x1 : Int32) (x2 : Int32) : Int32 := (if (F209 M (Int32.toInt64 x1) 0 (Int32.toInt64 (((M 59) 0) - 1))) = 0 then 0 else (if (F209 M (Int32.toInt64 x2) 0 (Int32.toInt64 (((M 59) 1) - 1))) = 0 then 0 else 1))
theorem bb244 {M : Mem} {x1 : Int32} {x2 : Int32} : F244 M x1 x2 &&& 1 = F244 M x1 x2 := by
  unfold F244
  (repeat' split) <;> first | rfl | decide
theorem s244 {E : gw_N} {M : Mem} {x1 : Int32} {x2 : Int32} : Rn 244 [.ref 59, .int x1, .int x2] (hs E M) (some (.int (F244 M x1 x2))) (hs E M) :=
  w244_0 (⟨fun h0 => gw_reteq (if_pos h0), fun h0 => ⟨fun h1 => gw_reteq ((if_neg h0).trans (if_pos h1)), fun h1 => gw_reteq ((if_neg h0).trans (if_neg h1))⟩⟩)
-- 246 GlassWiresModel between (II)I
set_option maxRecDepth 20000 in
theorem w246_0 {E : gw_N} {M : Mem} {res : Option Value × gw_H} {x1 : Int32} {x2 : Int32} (H : ((x2 = 0 → (¬ ((M 59) 0) = 0 ∧ (¬ ((M 59) 0) = 0 ∧ res = (some (.int (F235 M ((x1 - x1 / ((M 59) 0) * ((M 59) 0)) + 1) (x1 / ((M 59) 0)) 1)), hs E M)))) ∧ (¬ x2 = 0 → (¬ ((M 59) 0) = 0 ∧ (¬ ((M 59) 0) = 0 ∧ res = (some (.int (F235 M (x1 - x1 / ((M 59) 0) * ((M 59) 0)) ((x1 / ((M 59) 0)) + 1) 0)), hs E M)))))) : Ev 2 246 0 [some (.ref 59), some (.int x1), some (.int x2)] [] (hs E M) res := by
  refine Ev.steps 2 (pc' := if x2 = 0 then 4 else 25) (L' := [some (.ref 59), some (.int x1), some (.int x2)]) (st' := []) rfl ?_
  refine Ev_ite (fun hc => ?_) (fun hc => ?_)
  · replace H := H.1 hc
    refine Ev.steps 3 (pc' := 9) (L' := [some (.ref 59), some (.int x1), some (.int x2)]) (st' := [.int ((M 59) 0), .int x1]) rfl ?_
    refine Ev.dv (y := ((M 59) 0)) (pc' := 10) (L' := [some (.ref 59), some (.int x1), some (.int x2)]) (st' := [.int (x1 - x1 / ((M 59) 0) * ((M 59) 0))]) H.1 rfl ?_
    replace H := H.2
    refine Ev.steps 5 (pc' := 17) (L' := [some (.ref 59), some (.int x1), some (.int x2)]) (st' := [.int ((M 59) 0), .int x1, .int ((x1 - x1 / ((M 59) 0) * ((M 59) 0)) + 1)]) rfl ?_
    refine Ev.dv (y := ((M 59) 0)) (pc' := 18) (L' := [some (.ref 59), some (.int x1), some (.int x2)]) (st' := [.int (x1 / ((M 59) 0)), .int ((x1 - x1 / ((M 59) 0) * ((M 59) 0)) + 1)]) H.1 rfl ?_
    replace H := H.2
    refine Ev.steps 1 (pc' := 19) (L' := [some (.ref 59), some (.int x1), some (.int x2)]) (st' := [.int 1, .int (x1 / ((M 59) 0)), .int ((x1 - x1 / ((M 59) 0) * ((M 59) 0)) + 1)]) rfl ?_
    refine Ev.call (y := 235) (args := [.int ((x1 - x1 / ((M 59) 0) * ((M 59) 0)) + 1), .int (x1 / ((M 59) 0)), .int 1]) (rest := []) (r := some (.int (F235 M ((x1 - x1 / ((M 59) 0) * ((M 59) 0)) + 1) (x1 / ((M 59) 0)) 1))) rfl (s235) ?_
    show Ev 2 246 22 [some (.ref 59), some (.int x1), some (.int x2)] [.int (F235 M ((x1 - x1 / ((M 59) 0) * ((M 59) 0)) + 1) (x1 / ((M 59) 0)) 1)] _ _
    refine Ev.steps 1 (pc' := 43) (L' := [some (.ref 59), some (.int x1), some (.int x2)]) (st' := [.int (F235 M ((x1 - x1 / ((M 59) 0) * ((M 59) 0)) + 1) (x1 / ((M 59) 0)) 1)]) rfl ?_
    subst H
    exact Ev.ret rfl
  · replace H := H.2 hc
    refine Ev.steps 3 (pc' := 30) (L' := [some (.ref 59), some (.int x1), some (.int x2)]) (st' := [.int ((M 59) 0), .int x1]) rfl ?_
    refine Ev.dv (y := ((M 59) 0)) (pc' := 31) (L' := [some (.ref 59), some (.int x1), some (.int x2)]) (st' := [.int (x1 - x1 / ((M 59) 0) * ((M 59) 0))]) H.1 rfl ?_
    replace H := H.2
    refine Ev.steps 3 (pc' := 36) (L' := [some (.ref 59), some (.int x1), some (.int x2)]) (st' := [.int ((M 59) 0), .int x1, .int (x1 - x1 / ((M 59) 0) * ((M 59) 0))]) rfl ?_
    refine Ev.dv (y := ((M 59) 0)) (pc' := 37) (L' := [some (.ref 59), some (.int x1), some (.int x2)]) (st' := [.int (x1 / ((M 59) 0)), .int (x1 - x1 / ((M 59) 0) * ((M 59) 0))]) H.1 rfl ?_
    replace H := H.2
    refine Ev.steps 3 (pc' := 40) (L' := [some (.ref 59), some (.int x1), some (.int x2)]) (st' := [.int 0, .int ((x1 / ((M 59) 0)) + 1), .int (x1 - x1 / ((M 59) 0) * ((M 59) 0))]) rfl ?_
    refine Ev.call (y := 235) (args := [.int (x1 - x1 / ((M 59) 0) * ((M 59) 0)), .int ((x1 / ((M 59) 0)) + 1), .int 0]) (rest := []) (r := some (.int (F235 M (x1 - x1 / ((M 59) 0) * ((M 59) 0)) ((x1 / ((M 59) 0)) + 1) 0))) rfl (s235) ?_
    show Ev 2 246 43 [some (.ref 59), some (.int x1), some (.int x2)] [.int (F235 M (x1 - x1 / ((M 59) 0) * ((M 59) 0)) ((x1 / ((M 59) 0)) + 1) 0)] _ _
    subst H
    exact Ev.ret rfl

def F246 (M : Mem) (x1 : Int32) (x2 : Int32) : Int32 := (if x2 = 0 then (F235 M ((x1 - x1 / ((M 59) 0) * ((M 59) 0)) + 1) (x1 / ((M 59) 0)) 1) else (F235 M (x1 - x1 / ((M 59) 0) * ((M 59) 0)) ((x1 / ((M 59) 0)) + 1) 0))
def P246 (M : Mem) (x1 : Int32) (x2 : Int32) : Prop := ((x2 = 0 → (¬ ((M 59) 0) = 0 ∧ (¬ ((M 59) 0) = 0))) ∧ (¬ x2 = 0 → (¬ ((M 59) 0) = 0 ∧ (¬ ((M 59) 0) = 0))))
theorem s246 {E : gw_N} {M : Mem} {x1 : Int32} {x2 : Int32} (H : P246 M x1 x2) : Rn 246 [.ref 59, .int x1, .int x2] (hs E M) (some (.int (F246 M x1 x2))) (hs E M) :=
  w246_0 (⟨fun h0 => ⟨(H.1 h0).1, ⟨(H.1 h0).2, gw_reteq (if_pos h0)⟩⟩, fun h0 => ⟨(H.2 h0).1, ⟨(H.2 h0).2, gw_reteq (if_neg h0)⟩⟩⟩)
-- 249 GlassWiresModel sizeOf (I)I
set_option maxRecDepth 20000 in
theorem w249_0 {E : gw_N} {M : Mem} {res : Option Value × gw_H} {x1 : Int32} (H : Ev 2 249 4 [some (.ref 59), some (.int x1), some (.int 0), some (.int 0)] [] (hs E M) res) : Ev 2 249 0 [some (.ref 59), some (.int x1), none, none] [] (hs E M) res := by
  refine Ev.steps 4 (pc' := 4) (L' := [some (.ref 59), some (.int x1), some (.int 0), some (.int 0)]) (st' := []) rfl ?_
  exact Ev.weak [some (.ref 59), some (.int x1), some (.int 0), some (.int 0)] (gw_leb_le ⟨rfl, rfl, rfl, rfl, trivial⟩) H

set_option maxRecDepth 20000 in
theorem w249_4 {E : gw_N} {M : Mem} {res : Option Value × gw_H} {x1 : Int32} {x2 : Int32} {x3 : Int32} (H : (((F243 M) ≤ x3 → res = (some (.int x2), hs E M)) ∧ (¬ (F243 M) ≤ x3 → (inb x3 64 ∧ ((((M 69) (x3 : Int32).toNatClampNeg) = x1 → Ev 2 249 4 [some (.ref 59), some (.int x1), some (.int (x2 + 1)), some (.int (x3 + 1))] [] (hs E M) res) ∧ (¬ ((M 69) (x3 : Int32).toNatClampNeg) = x1 → Ev 2 249 4 [some (.ref 59), some (.int x1), some (.int (x2 + 0)), some (.int (x3 + 1))] [] (hs E M) res)))))) : Ev 2 249 4 [some (.ref 59), some (.int x1), some (.int x2), some (.int x3)] [] (hs E M) res := by
  refine Ev.steps 2 (pc' := 6) (L' := [some (.ref 59), some (.int x1), some (.int x2), some (.int x3)]) (st' := [.ref 59, .int x3]) rfl ?_
  refine Ev.call (y := 243) (args := [.ref 59]) (rest := [.int x3]) (r := some (.int (F243 M))) rfl (s243) ?_
  show Ev 2 249 9 [some (.ref 59), some (.int x1), some (.int x2), some (.int x3)] [.int (F243 M), .int x3] _ _
  refine Ev.steps 1 (pc' := if (F243 M) ≤ x3 then 36 else 12) (L' := [some (.ref 59), some (.int x1), some (.int x2), some (.int x3)]) (st' := []) rfl ?_
  refine Ev_ite (fun hc => ?_) (fun hc => ?_)
  · replace H := H.1 hc
    refine Ev.steps 1 (pc' := 37) (L' := [some (.ref 59), some (.int x1), some (.int x2), some (.int x3)]) (st' := [.int x2]) rfl ?_
    subst H
    exact Ev.ret rfl
  · replace H := H.2 hc
    refine Ev.steps 4 (pc' := 18) (L' := [some (.ref 59), some (.int x1), some (.int x2), some (.int x3)]) (st' := [.int x3, .ref 69, .int x2]) rfl ?_
    refine Ev.rd (i := x3) (n := 64) (pc' := 19) (L' := [some (.ref 59), some (.int x1), some (.int x2), some (.int x3)]) (st' := [.int ((M 69) (x3 : Int32).toNatClampNeg), .int x2]) H.1 rfl ?_
    replace H := H.2
    refine Ev.steps 2 (pc' := if ((M 69) (x3 : Int32).toNatClampNeg) = x1 then 23 else 27) (L' := [some (.ref 59), some (.int x1), some (.int x2), some (.int x3)]) (st' := [.int x2]) rfl ?_
    refine Ev_ite (fun hc => ?_) (fun hc => ?_)
    · replace H := H.1 hc
      refine Ev.steps 6 (pc' := 4) (L' := [some (.ref 59), some (.int x1), some (.int (x2 + 1)), some (.int (x3 + 1))]) (st' := []) rfl ?_
      exact Ev.weak [some (.ref 59), some (.int x1), some (.int (x2 + 1)), some (.int (x3 + 1))] (gw_leb_le ⟨rfl, rfl, rfl, rfl, trivial⟩) H
    · replace H := H.2 hc
      refine Ev.steps 5 (pc' := 4) (L' := [some (.ref 59), some (.int x1), some (.int (x2 + 0)), some (.int (x3 + 1))]) (st' := []) rfl ?_
      exact Ev.weak [some (.ref 59), some (.int x1), some (.int (x2 + 0)), some (.int (x3 + 1))] (gw_leb_le ⟨rfl, rfl, rfl, rfl, trivial⟩) H

-- 257 GlassWiresModel paintBy (I)Z
set_option maxRecDepth 20000 in
theorem w257_0 {E : gw_N} {M : Mem} {res : Option Value × gw_H} {x1 : Int32} (H : (inb 0 10 ∧ Ev 2 257 9 [some (.ref 59), some (.int x1), some (.int 0)] [] (hs E (up M 72 (upd (M 72) (0 : Int32).toNatClampNeg 0))) res)) : Ev 2 257 0 [some (.ref 59), some (.int x1), none] [] (hs E M) res := by
  refine Ev.steps 6 (pc' := 8) (L' := [some (.ref 59), some (.int x1), some (.int 0)]) (st' := [.int 0, .int 0, .ref 72]) rfl ?_
  refine Ev.wr (a := 72) (g := (upd (M 72) (0 : Int32).toNatClampNeg 0)) (i := 0) (n := 10) (pc' := 9) (L' := [some (.ref 59), some (.int x1), some (.int 0)]) (st' := []) (by decide) H.1 rfl ?_
  replace H := H.2
  exact Ev.weak [some (.ref 59), some (.int x1), some (.int 0)] (gw_leb_le ⟨rfl, rfl, rfl, trivial⟩) H

set_option maxRecDepth 20000 in
theorem w257_9 {E : gw_N} {M : Mem} {res : Option Value × gw_H} {x1 : Int32} {x2 : Int32} (H : ((x2 < 0 → ((x2 < 0 → res = (some (.int 0), hs E M)) ∧ (¬ x2 < 0 → res = (some (.int 1), hs E M)))) ∧ (¬ x2 < 0 → ((((M 59) 15) ≤ x2 → ((x2 < 0 → res = (some (.int 0), hs E M)) ∧ (¬ x2 < 0 → res = (some (.int 1), hs E M)))) ∧ (¬ ((M 59) 15) ≤ x2 → Ev 2 257 21 [some (.ref 59), some (.int x1), some (.int x2)] [] (hs E M) res))))) : Ev 2 257 9 [some (.ref 59), some (.int x1), some (.int x2)] [] (hs E M) res := by
  refine Ev.steps 2 (pc' := if x2 < 0 then 103 else 13) (L' := [some (.ref 59), some (.int x1), some (.int x2)]) (st' := []) rfl ?_
  refine Ev_ite (fun hc => ?_) (fun hc => ?_)
  · replace H := H.1 hc
    refine Ev.steps 2 (pc' := if x2 < 0 then 111 else 107) (L' := [some (.ref 59), some (.int x1), some (.int x2)]) (st' := []) rfl ?_
    refine Ev_ite (fun hc => ?_) (fun hc => ?_)
    · replace H := H.1 hc
      refine Ev.steps 1 (pc' := 112) (L' := [some (.ref 59), some (.int x1), some (.int x2)]) (st' := [.int 0]) rfl ?_
      subst H
      exact Ev.ret rfl
    · replace H := H.2 hc
      refine Ev.steps 2 (pc' := 112) (L' := [some (.ref 59), some (.int x1), some (.int x2)]) (st' := [.int 1]) rfl ?_
      subst H
      exact Ev.ret rfl
  · replace H := H.2 hc
    refine Ev.steps 4 (pc' := if ((M 59) 15) ≤ x2 then 103 else 21) (L' := [some (.ref 59), some (.int x1), some (.int x2)]) (st' := []) rfl ?_
    refine Ev_ite (fun hc => ?_) (fun hc => ?_)
    · replace H := H.1 hc
      refine Ev.steps 2 (pc' := if x2 < 0 then 111 else 107) (L' := [some (.ref 59), some (.int x1), some (.int x2)]) (st' := []) rfl ?_
      refine Ev_ite (fun hc => ?_) (fun hc => ?_)
      · replace H := H.1 hc
        refine Ev.steps 1 (pc' := 112) (L' := [some (.ref 59), some (.int x1), some (.int x2)]) (st' := [.int 0]) rfl ?_
        subst H
        exact Ev.ret rfl
      · replace H := H.2 hc
        refine Ev.steps 2 (pc' := 112) (L' := [some (.ref 59), some (.int x1), some (.int x2)]) (st' := [.int 1]) rfl ?_
        subst H
        exact Ev.ret rfl
    · replace H := H.2 hc
      exact Ev.weak [some (.ref 59), some (.int x1), some (.int x2)] (gw_leb_le ⟨rfl, rfl, rfl, trivial⟩) H

set_option maxRecDepth 20000 in
theorem w257_21 {E : gw_N} {M : Mem} {res : Option Value × gw_H} {x1 : Int32} {x2 : Int32} (H : (inb x2 10 ∧ ((x1 ≤ ((M 72) (x2 : Int32).toNatClampNeg) → (inb x2 10 ∧ ((x1 ≤ ((M 72) (x2 : Int32).toNatClampNeg) → (((x2 + (-1)) < 0 → Ev 2 257 9 [some (.ref 59), some (.int x1), some (.int (x2 + (-1)))] [] (hs E M) res) ∧ (¬ (x2 + (-1)) < 0 → (inb (x2 + (-1)) 10 ∧ (inb (x2 + (-1)) 10 ∧ Ev 2 257 9 [some (.ref 59), some (.int x1), some (.int (x2 + (-1)))] [] (hs E (up M 72 (upd (M 72) ((x2 + (-1)) : Int32).toNatClampNeg (((M 72) ((x2 + (-1)) : Int32).toNatClampNeg) + 1)))) res))))) ∧ (¬ x1 ≤ ((M 72) (x2 : Int32).toNatClampNeg) → ((((M 59) 15) ≤ (x2 + 1) → Ev 2 257 9 [some (.ref 59), some (.int x1), some (.int (x2 + 1))] [] (hs E M) res) ∧ (¬ ((M 59) 15) ≤ (x2 + 1) → (inb (x2 + 1) 10 ∧ Ev 2 257 9 [some (.ref 59), some (.int x1), some (.int (x2 + 1))] [] (hs E (up M 72 (upd (M 72) ((x2 + 1) : Int32).toNatClampNeg 0))) res))))))) ∧ (¬ x1 ≤ ((M 72) (x2 : Int32).toNatClampNeg) → (∃ (r1 : Int32), Rn 256 [.ref 59, .int x2] (hs E M) (some (.int r1)) (hs E M) ∧ ((r1 = 0 → (inb x2 10 ∧ ((x1 ≤ ((M 72) (x2 : Int32).toNatClampNeg) → (((x2 + (-1)) < 0 → Ev 2 257 9 [some (.ref 59), some (.int x1), some (.int (x2 + (-1)))] [] (hs E M) res) ∧ (¬ (x2 + (-1)) < 0 → (inb (x2 + (-1)) 10 ∧ (inb (x2 + (-1)) 10 ∧ Ev 2 257 9 [some (.ref 59), some (.int x1), some (.int (x2 + (-1)))] [] (hs E (up M 72 (upd (M 72) ((x2 + (-1)) : Int32).toNatClampNeg (((M 72) ((x2 + (-1)) : Int32).toNatClampNeg) + 1)))) res))))) ∧ (¬ x1 ≤ ((M 72) (x2 : Int32).toNatClampNeg) → ((((M 59) 15) ≤ (x2 + 1) → Ev 2 257 9 [some (.ref 59), some (.int x1), some (.int (x2 + 1))] [] (hs E M) res) ∧ (¬ ((M 59) 15) ≤ (x2 + 1) → (inb (x2 + 1) 10 ∧ Ev 2 257 9 [some (.ref 59), some (.int x1), some (.int (x2 + 1))] [] (hs E (up M 72 (upd (M 72) ((x2 + 1) : Int32).toNatClampNeg 0))) res))))))) ∧ (¬ r1 = 0 → (inb x2 10 ∧ (inb x2 10 ∧ Ev 2 257 21 [some (.ref 59), some (.int x1), some (.int x2)] [] (hs E (up M 72 (upd (M 72) (x2 : Int32).toNatClampNeg (((M 72) (x2 : Int32).toNatClampNeg) + 1)))) res))))))))) : Ev 2 257 21 [some (.ref 59), some (.int x1), some (.int x2)] [] (hs E M) res := by
  refine Ev.steps 3 (pc' := 26) (L' := [some (.ref 59), some (.int x1), some (.int x2)]) (st' := [.int x2, .ref 72]) rfl ?_
  refine Ev.rd (i := x2) (n := 10) (pc' := 27) (L' := [some (.ref 59), some (.int x1), some (.int x2)]) (st' := [.int ((M 72) (x2 : Int32).toNatClampNeg)]) H.1 rfl ?_
  replace H := H.2
  refine Ev.steps 2 (pc' := if x1 ≤ ((M 72) (x2 : Int32).toNatClampNeg) then 52 else 31) (L' := [some (.ref 59), some (.int x1), some (.int x2)]) (st' := []) rfl ?_
  refine Ev_ite (fun hc => ?_) (fun hc => ?_)
  · replace H := H.1 hc
    refine Ev.steps 3 (pc' := 57) (L' := [some (.ref 59), some (.int x1), some (.int x2)]) (st' := [.int x2, .ref 72]) rfl ?_
    refine Ev.rd (i := x2) (n := 10) (pc' := 58) (L' := [some (.ref 59), some (.int x1), some (.int x2)]) (st' := [.int ((M 72) (x2 : Int32).toNatClampNeg)]) H.1 rfl ?_
    replace H := H.2
    refine Ev.steps 2 (pc' := if x1 ≤ ((M 72) (x2 : Int32).toNatClampNeg) then 83 else 62) (L' := [some (.ref 59), some (.int x1), some (.int x2)]) (st' := []) rfl ?_
    refine Ev_ite (fun hc => ?_) (fun hc => ?_)
    · replace H := H.1 hc
      refine Ev.steps 3 (pc' := if (x2 + (-1)) < 0 then 9 else 90) (L' := [some (.ref 59), some (.int x1), some (.int (x2 + (-1)))]) (st' := []) rfl ?_
      refine Ev_ite (fun hc => ?_) (fun hc => ?_)
      · replace H := H.1 hc
        exact Ev.weak [some (.ref 59), some (.int x1), some (.int (x2 + (-1)))] (gw_leb_le ⟨rfl, rfl, rfl, trivial⟩) H
      · replace H := H.2 hc
        refine Ev.steps 4 (pc' := 96) (L' := [some (.ref 59), some (.int x1), some (.int (x2 + (-1)))]) (st' := [.int (x2 + (-1)), .ref 72, .int (x2 + (-1)), .ref 72]) rfl ?_
        refine Ev.rd (i := (x2 + (-1))) (n := 10) (pc' := 97) (L' := [some (.ref 59), some (.int x1), some (.int (x2 + (-1)))]) (st' := [.int ((M 72) ((x2 + (-1)) : Int32).toNatClampNeg), .int (x2 + (-1)), .ref 72]) H.1 ((show ∀ q9 : Int32, gw_stp 257 96 [some (.ref 59), some (.int x1), some (.int q9)] [.int q9, .ref 72, .int q9, .ref 72] (hs E M) = if q9 < 0 ∨ 10 ≤ q9.toNatClampNeg then none else some (97, [some (.ref 59), some (.int x1), some (.int q9)], [.int ((M 72) (q9 : Int32).toNatClampNeg), .int q9, .ref 72], hs E M) from fun q9 => rfl) (x2 + (-1))) ?_
        replace H := H.2
        refine Ev.steps 2 (pc' := 99) (L' := [some (.ref 59), some (.int x1), some (.int (x2 + (-1)))]) (st' := [.int (((M 72) ((x2 + (-1)) : Int32).toNatClampNeg) + 1), .int (x2 + (-1)), .ref 72]) rfl ?_
        refine Ev.wr (a := 72) (g := (upd (M 72) ((x2 + (-1)) : Int32).toNatClampNeg (((M 72) ((x2 + (-1)) : Int32).toNatClampNeg) + 1))) (i := (x2 + (-1))) (n := 10) (pc' := 100) (L' := [some (.ref 59), some (.int x1), some (.int (x2 + (-1)))]) (st' := []) (by decide) H.1 ((show ∀ q9 : Int32, gw_stp 257 99 [some (.ref 59), some (.int x1), some (.int q9)] [.int (((M 72) (q9 : Int32).toNatClampNeg) + 1), .int q9, .ref 72] (hs E M) = if q9 < 0 ∨ 10 ≤ q9.toNatClampNeg then none else some (100, [some (.ref 59), some (.int x1), some (.int q9)], [], gw_set (hs E M) 72 (hpc 72 (upd (M 72) (q9 : Int32).toNatClampNeg (((M 72) (q9 : Int32).toNatClampNeg) + 1)))) from fun q9 => rfl) (x2 + (-1))) ?_
        replace H := H.2
        refine Ev.steps 1 (pc' := 9) (L' := [some (.ref 59), some (.int x1), some (.int (x2 + (-1)))]) (st' := []) rfl ?_
        exact Ev.weak [some (.ref 59), some (.int x1), some (.int (x2 + (-1)))] (gw_leb_le ⟨rfl, rfl, rfl, trivial⟩) H
    · replace H := H.2 hc
      refine Ev.steps 5 (pc' := if ((M 59) 15) ≤ (x2 + 1) then 9 else 73) (L' := [some (.ref 59), some (.int x1), some (.int (x2 + 1))]) (st' := []) rfl ?_
      refine Ev_ite (fun hc => ?_) (fun hc => ?_)
      · replace H := H.1 hc
        exact Ev.weak [some (.ref 59), some (.int x1), some (.int (x2 + 1))] (gw_leb_le ⟨rfl, rfl, rfl, trivial⟩) H
      · replace H := H.2 hc
        refine Ev.steps 4 (pc' := 79) (L' := [some (.ref 59), some (.int x1), some (.int (x2 + 1))]) (st' := [.int 0, .int (x2 + 1), .ref 72]) rfl ?_
        refine Ev.wr (a := 72) (g := (upd (M 72) ((x2 + 1) : Int32).toNatClampNeg 0)) (i := (x2 + 1)) (n := 10) (pc' := 80) (L' := [some (.ref 59), some (.int x1), some (.int (x2 + 1))]) (st' := []) (by decide) H.1 rfl ?_
        replace H := H.2
        refine Ev.steps 1 (pc' := 9) (L' := [some (.ref 59), some (.int x1), some (.int (x2 + 1))]) (st' := []) rfl ?_
        exact Ev.weak [some (.ref 59), some (.int x1), some (.int (x2 + 1))] (gw_leb_le ⟨rfl, rfl, rfl, trivial⟩) H
  · replace H := H.2 hc
    refine Ev.steps 2 (pc' := 33) (L' := [some (.ref 59), some (.int x1), some (.int x2)]) (st' := [.int x2, .ref 59]) rfl ?_
    obtain ⟨r1, hr1, H⟩ := H
    refine Ev.call (y := 256) (args := [.ref 59, .int x2]) (rest := []) (r := (some (.int r1))) rfl hr1 ?_
    show Ev 2 257 36 [some (.ref 59), some (.int x1), some (.int x2)] [.int r1] _ _
    refine Ev.steps 1 (pc' := if r1 = 0 then 52 else 39) (L' := [some (.ref 59), some (.int x1), some (.int x2)]) (st' := []) rfl ?_
    refine Ev_ite (fun hc => ?_) (fun hc => ?_)
    · replace H := H.1 hc
      refine Ev.steps 3 (pc' := 57) (L' := [some (.ref 59), some (.int x1), some (.int x2)]) (st' := [.int x2, .ref 72]) rfl ?_
      refine Ev.rd (i := x2) (n := 10) (pc' := 58) (L' := [some (.ref 59), some (.int x1), some (.int x2)]) (st' := [.int ((M 72) (x2 : Int32).toNatClampNeg)]) H.1 rfl ?_
      replace H := H.2
      refine Ev.steps 2 (pc' := if x1 ≤ ((M 72) (x2 : Int32).toNatClampNeg) then 83 else 62) (L' := [some (.ref 59), some (.int x1), some (.int x2)]) (st' := []) rfl ?_
      refine Ev_ite (fun hc => ?_) (fun hc => ?_)
      · replace H := H.1 hc
        refine Ev.steps 3 (pc' := if (x2 + (-1)) < 0 then 9 else 90) (L' := [some (.ref 59), some (.int x1), some (.int (x2 + (-1)))]) (st' := []) rfl ?_
        refine Ev_ite (fun hc => ?_) (fun hc => ?_)
        · replace H := H.1 hc
          exact Ev.weak [some (.ref 59), some (.int x1), some (.int (x2 + (-1)))] (gw_leb_le ⟨rfl, rfl, rfl, trivial⟩) H
        · replace H := H.2 hc
          refine Ev.steps 4 (pc' := 96) (L' := [some (.ref 59), some (.int x1), some (.int (x2 + (-1)))]) (st' := [.int (x2 + (-1)), .ref 72, .int (x2 + (-1)), .ref 72]) rfl ?_
          refine Ev.rd (i := (x2 + (-1))) (n := 10) (pc' := 97) (L' := [some (.ref 59), some (.int x1), some (.int (x2 + (-1)))]) (st' := [.int ((M 72) ((x2 + (-1)) : Int32).toNatClampNeg), .int (x2 + (-1)), .ref 72]) H.1 ((show ∀ q9 : Int32, gw_stp 257 96 [some (.ref 59), some (.int x1), some (.int q9)] [.int q9, .ref 72, .int q9, .ref 72] (hs E M) = if q9 < 0 ∨ 10 ≤ q9.toNatClampNeg then none else some (97, [some (.ref 59), some (.int x1), some (.int q9)], [.int ((M 72) (q9 : Int32).toNatClampNeg), .int q9, .ref 72], hs E M) from fun q9 => rfl) (x2 + (-1))) ?_
          replace H := H.2
          refine Ev.steps 2 (pc' := 99) (L' := [some (.ref 59), some (.int x1), some (.int (x2 + (-1)))]) (st' := [.int (((M 72) ((x2 + (-1)) : Int32).toNatClampNeg) + 1), .int (x2 + (-1)), .ref 72]) rfl ?_
          refine Ev.wr (a := 72) (g := (upd (M 72) ((x2 + (-1)) : Int32).toNatClampNeg (((M 72) ((x2 + (-1)) : Int32).toNatClampNeg) + 1))) (i := (x2 + (-1))) (n := 10) (pc' := 100) (L' := [some (.ref 59), some (.int x1), some (.int (x2 + (-1)))]) (st' := []) (by decide) H.1 ((show ∀ q9 : Int32, gw_stp 257 99 [some (.ref 59), some (.int x1), some (.int q9)] [.int (((M 72) (q9 : Int32).toNatClampNeg) + 1), .int q9, .ref 72] (hs E M) = if q9 < 0 ∨ 10 ≤ q9.toNatClampNeg then none else some (100, [some (.ref 59), some (.int x1), some (.int q9)], [], gw_set (hs E M) 72 (hpc 72 (upd (M 72) (q9 : Int32).toNatClampNeg (((M 72) (q9 : Int32).toNatClampNeg) + 1)))) from fun q9 => rfl) (x2 + (-1))) ?_
          replace H := H.2
          refine Ev.steps 1 (pc' := 9) (L' := [some (.ref 59), some (.int x1), some (.int (x2 + (-1)))]) (st' := []) rfl ?_
          exact Ev.weak [some (.ref 59), some (.int x1), some (.int (x2 + (-1)))] (gw_leb_le ⟨rfl, rfl, rfl, trivial⟩) H
      · replace H := H.2 hc
        refine Ev.steps 5 (pc' := if ((M 59) 15) ≤ (x2 + 1) then 9 else 73) (L' := [some (.ref 59), some (.int x1), some (.int (x2 + 1))]) (st' := []) rfl ?_
        refine Ev_ite (fun hc => ?_) (fun hc => ?_)
        · replace H := H.1 hc
          exact Ev.weak [some (.ref 59), some (.int x1), some (.int (x2 + 1))] (gw_leb_le ⟨rfl, rfl, rfl, trivial⟩) H
        · replace H := H.2 hc
          refine Ev.steps 4 (pc' := 79) (L' := [some (.ref 59), some (.int x1), some (.int (x2 + 1))]) (st' := [.int 0, .int (x2 + 1), .ref 72]) rfl ?_
          refine Ev.wr (a := 72) (g := (upd (M 72) ((x2 + 1) : Int32).toNatClampNeg 0)) (i := (x2 + 1)) (n := 10) (pc' := 80) (L' := [some (.ref 59), some (.int x1), some (.int (x2 + 1))]) (st' := []) (by decide) H.1 rfl ?_
          replace H := H.2
          refine Ev.steps 1 (pc' := 9) (L' := [some (.ref 59), some (.int x1), some (.int (x2 + 1))]) (st' := []) rfl ?_
          exact Ev.weak [some (.ref 59), some (.int x1), some (.int (x2 + 1))] (gw_leb_le ⟨rfl, rfl, rfl, trivial⟩) H
    · replace H := H.2 hc
      refine Ev.steps 4 (pc' := 45) (L' := [some (.ref 59), some (.int x1), some (.int x2)]) (st' := [.int x2, .ref 72, .int x2, .ref 72]) rfl ?_
      refine Ev.rd (i := x2) (n := 10) (pc' := 46) (L' := [some (.ref 59), some (.int x1), some (.int x2)]) (st' := [.int ((M 72) (x2 : Int32).toNatClampNeg), .int x2, .ref 72]) H.1 rfl ?_
      replace H := H.2
      refine Ev.steps 2 (pc' := 48) (L' := [some (.ref 59), some (.int x1), some (.int x2)]) (st' := [.int (((M 72) (x2 : Int32).toNatClampNeg) + 1), .int x2, .ref 72]) rfl ?_
      refine Ev.wr (a := 72) (g := (upd (M 72) (x2 : Int32).toNatClampNeg (((M 72) (x2 : Int32).toNatClampNeg) + 1))) (i := x2) (n := 10) (pc' := 49) (L' := [some (.ref 59), some (.int x1), some (.int x2)]) (st' := []) (by decide) H.1 rfl ?_
      replace H := H.2
      refine Ev.steps 1 (pc' := 21) (L' := [some (.ref 59), some (.int x1), some (.int x2)]) (st' := []) rfl ?_
      exact Ev.weak [some (.ref 59), some (.int x1), some (.int x2)] (gw_leb_le ⟨rfl, rfl, rfl, trivial⟩) H

-- 261 GlassWiresModel isColour (I)Z
set_option maxRecDepth 20000 in
theorem w261_0 {E : gw_N} {M : Mem} {res : Option Value × gw_H} {x0 : Int32} (H : res = (some (.int (F209 M (Int32.toInt64 x0) 0 7)), hs E M)) : Ev 2 261 0 [some (.int x0)] [] (hs E M) res := by
  refine Ev.steps 4 (pc' := 6) (L' := [some (.int x0)]) (st' := [.long 7, .long 0, .long (Int32.toInt64 x0)]) rfl ?_
  refine Ev.call (y := 209) (args := [.long (Int32.toInt64 x0), .long 0, .long 7]) (rest := []) (r := some (.int (F209 M (Int32.toInt64 x0) 0 7))) rfl (s209) ?_
  show Ev 2 261 9 [some (.int x0)] [.int (F209 M (Int32.toInt64 x0) 0 7)] _ _
  subst H
  exact Ev.ret (if_pos bb209)

def F261 (M : Mem) (x0 : Int32) : Int32 := (F209 M (Int32.toInt64 x0) 0 7)
theorem bb261 {M : Mem} {x0 : Int32} : F261 M x0 &&& 1 = F261 M x0 := by
  unfold F261
  (repeat' split) <;> first | rfl | decide | exact bb209
theorem s261 {E : gw_N} {M : Mem} {x0 : Int32} : Rn 261 [.int x0] (hs E M) (some (.int (F261 M x0))) (hs E M) :=
  w261_0 (rfl)
-- 264 GlassWiresModel rule (II)I
set_option maxRecDepth 20000 in
theorem w264_0 {E : gw_N} {M : Mem} {res : Option Value × gw_H} {x1 : Int32} {x2 : Int32} (H : (((F209 M (Int32.toInt64 x1) 0 2) = 0 → res = (some (.int (-101)), hs E M)) ∧ (¬ (F209 M (Int32.toInt64 x1) 0 2) = 0 → ((x1 = 2 → Ev 2 264 32 [some (.ref 59), some (.int x1), some (.int x2), none] [.long 999, .long 1, .long (Int32.toInt64 x2)] (hs E M) res) ∧ (¬ x1 = 2 → Ev 2 264 32 [some (.ref 59), some (.int x1), some (.int x2), none] [.long 99, .long 1, .long (Int32.toInt64 x2)] (hs E M) res))))) : Ev 2 264 0 [some (.ref 59), some (.int x1), some (.int x2), none] [] (hs E M) res := by
  refine Ev.steps 4 (pc' := 6) (L' := [some (.ref 59), some (.int x1), some (.int x2), none]) (st' := [.long 2, .long 0, .long (Int32.toInt64 x1)]) rfl ?_
  refine Ev.call (y := 209) (args := [.long (Int32.toInt64 x1), .long 0, .long 2]) (rest := []) (r := some (.int (F209 M (Int32.toInt64 x1) 0 2))) rfl (s209) ?_
  show Ev 2 264 9 [some (.ref 59), some (.int x1), some (.int x2), none] [.int (F209 M (Int32.toInt64 x1) 0 2)] _ _
  refine Ev.steps 1 (pc' := if (F209 M (Int32.toInt64 x1) 0 2) = 0 then 12 else 15) (L' := [some (.ref 59), some (.int x1), some (.int x2), none]) (st' := []) rfl ?_
  refine Ev_ite (fun hc => ?_) (fun hc => ?_)
  · replace H := H.1 hc
    refine Ev.steps 1 (pc' := 14) (L' := [some (.ref 59), some (.int x1), some (.int x2), none]) (st' := [.int (-101)]) rfl ?_
    subst H
    exact Ev.ret rfl
  · replace H := H.2 hc
    refine Ev.steps 6 (pc' := if x1 = 2 then 23 else 29) (L' := [some (.ref 59), some (.int x1), some (.int x2), none]) (st' := [.long 1, .long (Int32.toInt64 x2)]) rfl ?_
    refine Ev_ite (fun hc => ?_) (fun hc => ?_)
    · replace H := H.1 hc
      refine Ev.steps 2 (pc' := 32) (L' := [some (.ref 59), some (.int x1), some (.int x2), none]) (st' := [.long 999, .long 1, .long (Int32.toInt64 x2)]) rfl ?_
      exact Ev.weak [some (.ref 59), some (.int x1), some (.int x2), none] (gw_leb_le ⟨rfl, rfl, rfl, trivial⟩) H
    · replace H := H.2 hc
      refine Ev.steps 1 (pc' := 32) (L' := [some (.ref 59), some (.int x1), some (.int x2), none]) (st' := [.long 99, .long 1, .long (Int32.toInt64 x2)]) rfl ?_
      exact Ev.weak [some (.ref 59), some (.int x1), some (.int x2), none] (gw_leb_le ⟨rfl, rfl, rfl, trivial⟩) H

set_option maxRecDepth 20000 in
theorem w264_32 {E : gw_N} {M : Mem} {res : Option Value × gw_H} {x1 : Int32} {x2 : Int32} {y0 : Int64} {y1 : Int64} {y2 : Int64} (H : (((F209 M y0 y1 y2) = 0 → res = (some (.int (-102)), hs E M)) ∧ (¬ (F209 M y0 y1 y2) = 0 → ((x1 = 0 → Ev 2 264 68 [some (.ref 59), some (.int x1), some (.int x2), none] [.int ((M 59) 22)] (hs E M) res) ∧ (¬ x1 = 0 → ((x1 = 1 → Ev 2 264 68 [some (.ref 59), some (.int x1), some (.int x2), none] [.int ((M 59) 23)] (hs E M) res) ∧ (¬ x1 = 1 → Ev 2 264 68 [some (.ref 59), some (.int x1), some (.int x2), none] [.int ((M 59) 24)] (hs E M) res))))))) : Ev 2 264 32 [some (.ref 59), some (.int x1), some (.int x2), none] [.long y2, .long y1, .long y0] (hs E M) res := by
  refine Ev.call (y := 209) (args := [.long y0, .long y1, .long y2]) (rest := []) (r := some (.int (F209 M y0 y1 y2))) rfl (s209) ?_
  show Ev 2 264 35 [some (.ref 59), some (.int x1), some (.int x2), none] [.int (F209 M y0 y1 y2)] _ _
  refine Ev.steps 1 (pc' := if (F209 M y0 y1 y2) = 0 then 38 else 41) (L' := [some (.ref 59), some (.int x1), some (.int x2), none]) (st' := []) rfl ?_
  refine Ev_ite (fun hc => ?_) (fun hc => ?_)
  · replace H := H.1 hc
    refine Ev.steps 1 (pc' := 40) (L' := [some (.ref 59), some (.int x1), some (.int x2), none]) (st' := [.int (-102)]) rfl ?_
    subst H
    exact Ev.ret rfl
  · replace H := H.2 hc
    refine Ev.steps 2 (pc' := if x1 = 0 then 45 else 52) (L' := [some (.ref 59), some (.int x1), some (.int x2), none]) (st' := []) rfl ?_
    refine Ev_ite (fun hc => ?_) (fun hc => ?_)
    · replace H := H.1 hc
      refine Ev.steps 3 (pc' := 68) (L' := [some (.ref 59), some (.int x1), some (.int x2), none]) (st' := [.int ((M 59) 22)]) rfl ?_
      exact Ev.weak [some (.ref 59), some (.int x1), some (.int x2), none] (gw_leb_le ⟨rfl, rfl, rfl, trivial⟩) H
    · replace H := H.2 hc
      refine Ev.steps 3 (pc' := if x1 = 1 then 57 else 64) (L' := [some (.ref 59), some (.int x1), some (.int x2), none]) (st' := []) rfl ?_
      refine Ev_ite (fun hc => ?_) (fun hc => ?_)
      · replace H := H.1 hc
        refine Ev.steps 3 (pc' := 68) (L' := [some (.ref 59), some (.int x1), some (.int x2), none]) (st' := [.int ((M 59) 23)]) rfl ?_
        exact Ev.weak [some (.ref 59), some (.int x1), some (.int x2), none] (gw_leb_le ⟨rfl, rfl, rfl, trivial⟩) H
      · replace H := H.2 hc
        refine Ev.steps 2 (pc' := 68) (L' := [some (.ref 59), some (.int x1), some (.int x2), none]) (st' := [.int ((M 59) 24)]) rfl ?_
        exact Ev.weak [some (.ref 59), some (.int x1), some (.int x2), none] (gw_leb_le ⟨rfl, rfl, rfl, trivial⟩) H

set_option maxRecDepth 20000 in
theorem w264_68 {E : gw_N} {M : Mem} {res : Option Value × gw_H} {x1 : Int32} {x2 : Int32} {y0 : Int32} (H : ((x1 = 0 → Ev 2 264 82 [some (.ref 59), some (.int x1), some (.int x2), some (.int y0)] [.int x2, .ref 59] (hs E M) res) ∧ (¬ x1 = 0 → Ev 2 264 82 [some (.ref 59), some (.int x1), some (.int x2), some (.int y0)] [.int ((M 59) 22), .ref 59] (hs E M) res))) : Ev 2 264 68 [some (.ref 59), some (.int x1), some (.int x2), none] [.int y0] (hs E M) res := by
  refine Ev.steps 4 (pc' := if x1 = 0 then 74 else 78) (L' := [some (.ref 59), some (.int x1), some (.int x2), some (.int y0)]) (st' := [.ref 59]) rfl ?_
  refine Ev_ite (fun hc => ?_) (fun hc => ?_)
  · replace H := H.1 hc
    refine Ev.steps 2 (pc' := 82) (L' := [some (.ref 59), some (.int x1), some (.int x2), some (.int y0)]) (st' := [.int x2, .ref 59]) rfl ?_
    exact Ev.weak [some (.ref 59), some (.int x1), some (.int x2), some (.int y0)] (gw_leb_le ⟨rfl, rfl, rfl, rfl, trivial⟩) H
  · replace H := H.2 hc
    refine Ev.steps 2 (pc' := 82) (L' := [some (.ref 59), some (.int x1), some (.int x2), some (.int y0)]) (st' := [.int ((M 59) 22), .ref 59]) rfl ?_
    exact Ev.weak [some (.ref 59), some (.int x1), some (.int x2), some (.int y0)] (gw_leb_le ⟨rfl, rfl, rfl, rfl, trivial⟩) H

set_option maxRecDepth 20000 in
theorem w264_82 {E : gw_N} {M : Mem} {res : Option Value × gw_H} {x1 : Int32} {x2 : Int32} {x3 : Int32} {y1 : Int32} (H : ((x1 = 1 → Ev 2 264 99 [some (.ref 59), some (.int x1), some (.int x2), some (.int x3)] [.int x2, .ref 59] (hs E (up M 59 (upd (M 59) 22 y1))) res) ∧ (¬ x1 = 1 → Ev 2 264 99 [some (.ref 59), some (.int x1), some (.int x2), some (.int x3)] [.int ((upd (M 59) 22 y1) 23), .ref 59] (hs E (up M 59 (upd (M 59) 22 y1))) res))) : Ev 2 264 82 [some (.ref 59), some (.int x1), some (.int x2), some (.int x3)] [.int y1, .ref 59] (hs E M) res := by
  refine Ev.mem (a := 59) (g := (upd (M 59) 22 y1)) (pc' := 85) (L' := [some (.ref 59), some (.int x1), some (.int x2), some (.int x3)]) (st' := []) (by decide) rfl ?_
  refine Ev.steps 4 (pc' := if x1 = 1 then 91 else 95) (L' := [some (.ref 59), some (.int x1), some (.int x2), some (.int x3)]) (st' := [.ref 59]) rfl ?_
  refine Ev_ite (fun hc => ?_) (fun hc => ?_)
  · replace H := H.1 hc
    refine Ev.steps 2 (pc' := 99) (L' := [some (.ref 59), some (.int x1), some (.int x2), some (.int x3)]) (st' := [.int x2, .ref 59]) rfl ?_
    exact Ev.weak [some (.ref 59), some (.int x1), some (.int x2), some (.int x3)] (gw_leb_le ⟨rfl, rfl, rfl, rfl, trivial⟩) H
  · replace H := H.2 hc
    refine Ev.steps 2 (pc' := 99) (L' := [some (.ref 59), some (.int x1), some (.int x2), some (.int x3)]) (st' := [.int ((upd (M 59) 22 y1) 23), .ref 59]) rfl ?_
    exact Ev.weak [some (.ref 59), some (.int x1), some (.int x2), some (.int x3)] (gw_leb_le ⟨rfl, rfl, rfl, rfl, trivial⟩) H

set_option maxRecDepth 20000 in
theorem w264_99 {E : gw_N} {M : Mem} {res : Option Value × gw_H} {x1 : Int32} {x2 : Int32} {x3 : Int32} {y1 : Int32} (H : ((x1 = 2 → Ev 2 264 116 [none, none, none, some (.int x3)] [.int x2, .ref 59] (hs E (up M 59 (upd (M 59) 23 y1))) res) ∧ (¬ x1 = 2 → Ev 2 264 116 [none, none, none, some (.int x3)] [.int ((upd (M 59) 23 y1) 24), .ref 59] (hs E (up M 59 (upd (M 59) 23 y1))) res))) : Ev 2 264 99 [some (.ref 59), some (.int x1), some (.int x2), some (.int x3)] [.int y1, .ref 59] (hs E M) res := by
  refine Ev.mem (a := 59) (g := (upd (M 59) 23 y1)) (pc' := 102) (L' := [some (.ref 59), some (.int x1), some (.int x2), some (.int x3)]) (st' := []) (by decide) rfl ?_
  refine Ev.steps 4 (pc' := if x1 = 2 then 108 else 112) (L' := [some (.ref 59), some (.int x1), some (.int x2), some (.int x3)]) (st' := [.ref 59]) rfl ?_
  refine Ev_ite (fun hc => ?_) (fun hc => ?_)
  · replace H := H.1 hc
    refine Ev.steps 2 (pc' := 116) (L' := [some (.ref 59), some (.int x1), some (.int x2), some (.int x3)]) (st' := [.int x2, .ref 59]) rfl ?_
    exact Ev.weak [none, none, none, some (.int x3)] (gw_leb_le ⟨rfl, trivial⟩) H
  · replace H := H.2 hc
    refine Ev.steps 2 (pc' := 116) (L' := [some (.ref 59), some (.int x1), some (.int x2), some (.int x3)]) (st' := [.int ((upd (M 59) 23 y1) 24), .ref 59]) rfl ?_
    exact Ev.weak [none, none, none, some (.int x3)] (gw_leb_le ⟨rfl, trivial⟩) H

set_option maxRecDepth 20000 in
theorem w264_116 {E : gw_N} {M : Mem} {res : Option Value × gw_H} {x3 : Int32} {y1 : Int32} (H : res = (some (.int x3), hs E (up M 59 (upd (M 59) 24 y1)))) : Ev 2 264 116 [none, none, none, some (.int x3)] [.int y1, .ref 59] (hs E M) res := by
  refine Ev.mem (a := 59) (g := (upd (M 59) 24 y1)) (pc' := 119) (L' := [none, none, none, some (.int x3)]) (st' := []) (by decide) rfl ?_
  refine Ev.steps 1 (pc' := 120) (L' := [none, none, none, some (.int x3)]) (st' := [.int x3]) rfl ?_
  subst H
  exact Ev.ret rfl

-- 274 GlassWiresModel polish ()I
set_option maxRecDepth 20000 in
theorem w274_0 {E : gw_N} {M : Mem} {res : Option Value × gw_H}  (H : Ev 2 274 4 [some (.ref 59), some (.int 0), some (.int 0), none, none] [] (hs E M) res) : Ev 2 274 0 [some (.ref 59), none, none, none, none] [] (hs E M) res := by
  refine Ev.steps 4 (pc' := 4) (L' := [some (.ref 59), some (.int 0), some (.int 0), none, none]) (st' := []) rfl ?_
  exact Ev.weak [some (.ref 59), some (.int 0), some (.int 0), none, none] (gw_leb_le ⟨rfl, rfl, rfl, trivial⟩) H

set_option maxRecDepth 20000 in
theorem w274_4 {E : gw_N} {M : Mem} {res : Option Value × gw_H} {x1 : Int32} {x2 : Int32} (H : (((F243 M) ≤ x2 → res = (some (.int x1), hs E M)) ∧ (¬ (F243 M) ≤ x2 → (∃ (r1 : Int32), Rn 267 [.ref 59, .int x2] (hs E M) (some (.int r1)) (hs E M) ∧ Ev 2 274 23 [some (.ref 59), some (.int x1), some (.int x2), some (.int (r1 - ((M 59) 22))), none] [] (hs E M) res)))) : Ev 2 274 4 [some (.ref 59), some (.int x1), some (.int x2), none, none] [] (hs E M) res := by
  refine Ev.steps 2 (pc' := 6) (L' := [some (.ref 59), some (.int x1), some (.int x2), none, none]) (st' := [.ref 59, .int x2]) rfl ?_
  refine Ev.call (y := 243) (args := [.ref 59]) (rest := [.int x2]) (r := some (.int (F243 M))) rfl (s243) ?_
  show Ev 2 274 9 [some (.ref 59), some (.int x1), some (.int x2), none, none] [.int (F243 M), .int x2] _ _
  refine Ev.steps 1 (pc' := if (F243 M) ≤ x2 then 54 else 12) (L' := [some (.ref 59), some (.int x1), some (.int x2), none, none]) (st' := []) rfl ?_
  refine Ev_ite (fun hc => ?_) (fun hc => ?_)
  · replace H := H.1 hc
    refine Ev.steps 1 (pc' := 55) (L' := [some (.ref 59), some (.int x1), some (.int x2), none, none]) (st' := [.int x1]) rfl ?_
    subst H
    exact Ev.ret rfl
  · replace H := H.2 hc
    refine Ev.steps 2 (pc' := 14) (L' := [some (.ref 59), some (.int x1), some (.int x2), none, none]) (st' := [.int x2, .ref 59]) rfl ?_
    obtain ⟨r1, hr1, H⟩ := H
    refine Ev.call (y := 267) (args := [.ref 59, .int x2]) (rest := []) (r := (some (.int r1))) rfl hr1 ?_
    show Ev 2 274 17 [some (.ref 59), some (.int x1), some (.int x2), none, none] [.int r1] _ _
    refine Ev.steps 4 (pc' := 23) (L' := [some (.ref 59), some (.int x1), some (.int x2), some (.int (r1 - ((M 59) 22))), none]) (st' := []) rfl ?_
    exact Ev.weak [some (.ref 59), some (.int x1), some (.int x2), some (.int (r1 - ((M 59) 22))), none] (gw_leb_le ⟨rfl, rfl, rfl, rfl, trivial⟩) H

set_option maxRecDepth 20000 in
theorem w274_23 {E : gw_N} {M : Mem} {res : Option Value × gw_H} {x1 : Int32} {x2 : Int32} {x3 : Int32} (H : ((x3 ≤ 0 → Ev 2 274 4 [some (.ref 59), some (.int x1), some (.int (x2 + 1)), none, none] [] (hs E M) res) ∧ (¬ x3 ≤ 0 → (∃ (r1 : Int32) (M1 : Mem), Rn 272 [.ref 59, .int x2, .int x3] (hs E M) (some (.int r1)) (hs E M1) ∧ Ev 2 274 23 [some (.ref 59), some (.int (x1 + r1)), some (.int x2), some (.int (x3 - r1)), none] [] (hs E M1) res)))) : Ev 2 274 23 [some (.ref 59), some (.int x1), some (.int x2), some (.int x3), none] [] (hs E M) res := by
  refine Ev.steps 2 (pc' := if x3 ≤ 0 then 48 else 27) (L' := [some (.ref 59), some (.int x1), some (.int x2), some (.int x3), none]) (st' := []) rfl ?_
  refine Ev_ite (fun hc => ?_) (fun hc => ?_)
  · replace H := H.1 hc
    refine Ev.steps 2 (pc' := 4) (L' := [some (.ref 59), some (.int x1), some (.int (x2 + 1)), some (.int x3), none]) (st' := []) rfl ?_
    exact Ev.weak [some (.ref 59), some (.int x1), some (.int (x2 + 1)), none, none] (gw_leb_le ⟨rfl, rfl, rfl, trivial⟩) H
  · replace H := H.2 hc
    refine Ev.steps 3 (pc' := 30) (L' := [some (.ref 59), some (.int x1), some (.int x2), some (.int x3), none]) (st' := [.int x3, .int x2, .ref 59]) rfl ?_
    obtain ⟨r1, M1, hr1, H⟩ := H
    refine Ev.call (y := 272) (args := [.ref 59, .int x2, .int x3]) (rest := []) (r := (some (.int r1))) rfl hr1 ?_
    show Ev 2 274 33 [some (.ref 59), some (.int x1), some (.int x2), some (.int x3), none] [.int r1] _ _
    refine Ev.steps 10 (pc' := 23) (L' := [some (.ref 59), some (.int (x1 + r1)), some (.int x2), some (.int (x3 - r1)), some (.int r1)]) (st' := []) rfl ?_
    exact Ev.weak [some (.ref 59), some (.int (x1 + r1)), some (.int x2), some (.int (x3 - r1)), none] (gw_leb_le ⟨rfl, rfl, rfl, rfl, trivial⟩) H

-- 281 GlassWiresModel findPlan (I)V
set_option maxRecDepth 20000 in
theorem w281_0 {E : gw_N} {M : Mem} {res : Option Value × gw_H} {x1 : Int32} (H : Ev 2 281 9 [some (.ref 59), some (.int x1), some (.int 0), some (.int 0), none, none, none] [] (hs E (up M 59 (upd (M 59) 33 0))) res) : Ev 2 281 0 [some (.ref 59), some (.int x1), none, none, none, none, none] [] (hs E M) res := by
  refine Ev.steps 2 (pc' := 2) (L' := [some (.ref 59), some (.int x1), none, none, none, none, none]) (st' := [.int 0, .ref 59]) rfl ?_
  refine Ev.mem (a := 59) (g := (upd (M 59) 33 0)) (pc' := 5) (L' := [some (.ref 59), some (.int x1), none, none, none, none, none]) (st' := []) (by decide) rfl ?_
  refine Ev.steps 4 (pc' := 9) (L' := [some (.ref 59), some (.int x1), some (.int 0), some (.int 0), none, none, none]) (st' := []) rfl ?_
  exact Ev.weak [some (.ref 59), some (.int x1), some (.int 0), some (.int 0), none, none, none] (gw_leb_le ⟨rfl, rfl, rfl, rfl, trivial⟩) H

set_option maxRecDepth 20000 in
theorem w281_9 {E : gw_N} {M : Mem} {res : Option Value × gw_H} {x1 : Int32} {x2 : Int32} {x3 : Int32} (H : ((8 ≤ x3 → res = (none, hs E M)) ∧ (¬ 8 ≤ x3 → Ev 2 281 22 [some (.ref 59), some (.int x1), some (.int x2), some (.int x3), some (.int (-1)), some (.int 7), none] [] (hs E M) res))) : Ev 2 281 9 [some (.ref 59), some (.int x1), some (.int x2), some (.int x3), none, none, none] [] (hs E M) res := by
  refine Ev.steps 3 (pc' := if 8 ≤ x3 then 229 else 15) (L' := [some (.ref 59), some (.int x1), some (.int x2), some (.int x3), none, none, none]) (st' := []) rfl ?_
  refine Ev_ite (fun hc => ?_) (fun hc => ?_)
  · replace H := H.1 hc
    subst H
    exact Ev.ret rfl
  · replace H := H.2 hc
    refine Ev.steps 4 (pc' := 22) (L' := [some (.ref 59), some (.int x1), some (.int x2), some (.int x3), some (.int (-1)), some (.int 7), none]) (st' := []) rfl ?_
    exact Ev.weak [some (.ref 59), some (.int x1), some (.int x2), some (.int x3), some (.int (-1)), some (.int 7), none] (gw_leb_le ⟨rfl, rfl, rfl, rfl, rfl, rfl, trivial⟩) H

set_option maxRecDepth 20000 in
theorem w281_22 {E : gw_N} {M : Mem} {res : Option Value × gw_H} {x1 : Int32} {x2 : Int32} {x3 : Int32} {x4 : Int32} {x5 : Int32} (H : ((x5 < 0 → ((x4 = (-1) → Ev 2 281 9 [some (.ref 59), some (.int x1), some (.int x2), some (.int (x3 + 1)), none, none, none] [] (hs E M) res) ∧ (¬ x4 = (-1) → Ev 2 281 115 [some (.ref 59), some (.int x1), some (.int (x2 ||| (1 <<< (x4 &&& 31)))), some (.int x3), some (.int x4), some (.int 0), some (.int 0)] [] (hs E M) res))) ∧ (¬ x5 < 0 → ((((x1 >>> (x5 &&& 31)) &&& 1) = 1 → ((((x2 >>> (x5 &&& 31)) &&& 1) = 0 → ((x4 = (-1) → Ev 2 281 22 [some (.ref 59), some (.int x1), some (.int x2), some (.int x3), some (.int x5), some (.int (x5 + (-1))), none] [] (hs E M) res) ∧ (¬ x4 = (-1) → (inb x5 8 ∧ (inb x4 8 ∧ ((((M 73) (x4 : Int32).toNatClampNeg) < ((M 73) (x5 : Int32).toNatClampNeg) → Ev 2 281 22 [some (.ref 59), some (.int x1), some (.int x2), some (.int x3), some (.int x4), some (.int (x5 + (-1))), none] [] (hs E M) res) ∧ (¬ ((M 73) (x4 : Int32).toNatClampNeg) < ((M 73) (x5 : Int32).toNatClampNeg) → Ev 2 281 22 [some (.ref 59), some (.int x1), some (.int x2), some (.int x3), some (.int x5), some (.int (x5 + (-1))), none] [] (hs E M) res))))))) ∧ (¬ ((x2 >>> (x5 &&& 31)) &&& 1) = 0 → Ev 2 281 22 [some (.ref 59), some (.int x1), some (.int x2), some (.int x3), some (.int x4), some (.int (x5 + (-1))), none] [] (hs E M) res))) ∧ (¬ ((x1 >>> (x5 &&& 31)) &&& 1) = 1 → Ev 2 281 22 [some (.ref 59), some (.int x1), some (.int x2), some (.int x3), some (.int x4), some (.int (x5 + (-1))), none] [] (hs E M) res))))) : Ev 2 281 22 [some (.ref 59), some (.int x1), some (.int x2), some (.int x3), some (.int x4), some (.int x5), none] [] (hs E M) res := by
  refine Ev.steps 2 (pc' := if x5 < 0 then 96 else 27) (L' := [some (.ref 59), some (.int x1), some (.int x2), some (.int x3), some (.int x4), some (.int x5), none]) (st' := []) rfl ?_
  refine Ev_ite (fun hc => ?_) (fun hc => ?_)
  · replace H := H.1 hc
    refine Ev.steps 3 (pc' := if x4 = (-1) then 223 else 102) (L' := [some (.ref 59), some (.int x1), some (.int x2), some (.int x3), some (.int x4), some (.int x5), none]) (st' := []) rfl ?_
    refine Ev_ite (fun hc => ?_) (fun hc => ?_)
    · replace H := H.1 hc
      refine Ev.steps 2 (pc' := 9) (L' := [some (.ref 59), some (.int x1), some (.int x2), some (.int (x3 + 1)), some (.int x4), some (.int x5), none]) (st' := []) rfl ?_
      exact Ev.weak [some (.ref 59), some (.int x1), some (.int x2), some (.int (x3 + 1)), none, none, none] (gw_leb_le ⟨rfl, rfl, rfl, rfl, trivial⟩) H
    · replace H := H.2 hc
      refine Ev.steps 10 (pc' := 115) (L' := [some (.ref 59), some (.int x1), some (.int (x2 ||| (1 <<< (x4 &&& 31)))), some (.int x3), some (.int x4), some (.int 0), some (.int 0)]) (st' := []) rfl ?_
      exact Ev.weak [some (.ref 59), some (.int x1), some (.int (x2 ||| (1 <<< (x4 &&& 31)))), some (.int x3), some (.int x4), some (.int 0), some (.int 0)] (gw_leb_le ⟨rfl, rfl, rfl, rfl, rfl, rfl, rfl, trivial⟩) H
  · replace H := H.2 hc
    refine Ev.steps 7 (pc' := if ((x1 >>> (x5 &&& 31)) &&& 1) = 1 then 37 else 50) (L' := [some (.ref 59), some (.int x1), some (.int x2), some (.int x3), some (.int x4), some (.int x5), none]) (st' := []) rfl ?_
    refine Ev_ite (fun hc => ?_) (fun hc => ?_)
    · replace H := H.1 hc
      refine Ev.steps 6 (pc' := if ((x2 >>> (x5 &&& 31)) &&& 1) = 0 then 46 else 50) (L' := [some (.ref 59), some (.int x1), some (.int x2), some (.int x3), some (.int x4), some (.int x5), none]) (st' := []) rfl ?_
      refine Ev_ite (fun hc => ?_) (fun hc => ?_)
      · replace H := H.1 hc
        refine Ev.steps 8 (pc' := if x4 = (-1) then 81 else 64) (L' := [some (.ref 59), some (.int x1), some (.int x2), some (.int x3), some (.int x4), some (.int x5), some (.int 1)]) (st' := []) rfl ?_
        refine Ev_ite (fun hc => ?_) (fun hc => ?_)
        · replace H := H.1 hc
          refine Ev.steps 5 (pc' := 22) (L' := [some (.ref 59), some (.int x1), some (.int x2), some (.int x3), some (.int x5), some (.int (x5 + (-1))), some (.int 1)]) (st' := []) rfl ?_
          exact Ev.weak [some (.ref 59), some (.int x1), some (.int x2), some (.int x3), some (.int x5), some (.int (x5 + (-1))), none] (gw_leb_le ⟨rfl, rfl, rfl, rfl, rfl, rfl, trivial⟩) H
        · replace H := H.2 hc
          refine Ev.steps 3 (pc' := 70) (L' := [some (.ref 59), some (.int x1), some (.int x2), some (.int x3), some (.int x4), some (.int x5), some (.int 1)]) (st' := [.int x5, .ref 73]) rfl ?_
          refine Ev.rd (i := x5) (n := 8) (pc' := 71) (L' := [some (.ref 59), some (.int x1), some (.int x2), some (.int x3), some (.int x4), some (.int x5), some (.int 1)]) (st' := [.int ((M 73) (x5 : Int32).toNatClampNeg)]) H.1 rfl ?_
          replace H := H.2
          refine Ev.steps 3 (pc' := 77) (L' := [some (.ref 59), some (.int x1), some (.int x2), some (.int x3), some (.int x4), some (.int x5), some (.int 1)]) (st' := [.int x4, .ref 73, .int ((M 73) (x5 : Int32).toNatClampNeg)]) rfl ?_
          refine Ev.rd (i := x4) (n := 8) (pc' := 78) (L' := [some (.ref 59), some (.int x1), some (.int x2), some (.int x3), some (.int x4), some (.int x5), some (.int 1)]) (st' := [.int ((M 73) (x4 : Int32).toNatClampNeg), .int ((M 73) (x5 : Int32).toNatClampNeg)]) H.1 rfl ?_
          replace H := H.2
          refine Ev.steps 1 (pc' := if ((M 73) (x4 : Int32).toNatClampNeg) < ((M 73) (x5 : Int32).toNatClampNeg) then 86 else 81) (L' := [some (.ref 59), some (.int x1), some (.int x2), some (.int x3), some (.int x4), some (.int x5), some (.int 1)]) (st' := []) rfl ?_
          refine Ev_ite (fun hc => ?_) (fun hc => ?_)
          · replace H := H.1 hc
            refine Ev.steps 4 (pc' := 22) (L' := [some (.ref 59), some (.int x1), some (.int x2), some (.int x3), some (.int x4), some (.int (x5 + (-1))), some (.int 1)]) (st' := []) rfl ?_
            exact Ev.weak [some (.ref 59), some (.int x1), some (.int x2), some (.int x3), some (.int x4), some (.int (x5 + (-1))), none] (gw_leb_le ⟨rfl, rfl, rfl, rfl, rfl, rfl, trivial⟩) H
          · replace H := H.2 hc
            refine Ev.steps 5 (pc' := 22) (L' := [some (.ref 59), some (.int x1), some (.int x2), some (.int x3), some (.int x5), some (.int (x5 + (-1))), some (.int 1)]) (st' := []) rfl ?_
            exact Ev.weak [some (.ref 59), some (.int x1), some (.int x2), some (.int x3), some (.int x5), some (.int (x5 + (-1))), none] (gw_leb_le ⟨rfl, rfl, rfl, rfl, rfl, rfl, trivial⟩) H
      · replace H := H.2 hc
        refine Ev.steps 8 (pc' := 22) (L' := [some (.ref 59), some (.int x1), some (.int x2), some (.int x3), some (.int x4), some (.int (x5 + (-1))), some (.int 0)]) (st' := []) rfl ?_
        exact Ev.weak [some (.ref 59), some (.int x1), some (.int x2), some (.int x3), some (.int x4), some (.int (x5 + (-1))), none] (gw_leb_le ⟨rfl, rfl, rfl, rfl, rfl, rfl, trivial⟩) H
    · replace H := H.2 hc
      refine Ev.steps 8 (pc' := 22) (L' := [some (.ref 59), some (.int x1), some (.int x2), some (.int x3), some (.int x4), some (.int (x5 + (-1))), some (.int 0)]) (st' := []) rfl ?_
      exact Ev.weak [some (.ref 59), some (.int x1), some (.int x2), some (.int x3), some (.int x4), some (.int (x5 + (-1))), none] (gw_leb_le ⟨rfl, rfl, rfl, rfl, rfl, rfl, trivial⟩) H

set_option maxRecDepth 20000 in
theorem w281_115 {E : gw_N} {M : Mem} {res : Option Value × gw_H} {x1 : Int32} {x2 : Int32} {x3 : Int32} {x4 : Int32} {x5 : Int32} {x6 : Int32} (H : ((((M 59) 33) ≤ x6 → Ev 2 281 177 [some (.ref 59), some (.int x1), some (.int x2), some (.int x3), some (.int x4), none, some (.int x5)] [] (hs E M) res) ∧ (¬ ((M 59) 33) ≤ x6 → (inb x6 900 ∧ (inb x4 8 ∧ (inb x4 8 ∧ (((F209 M (Int32.toInt64 ((M 83) (x6 : Int32).toNatClampNeg)) (Int32.toInt64 ((M 73) (x4 : Int32).toNatClampNeg)) (Int32.toInt64 (((M 73) (x4 : Int32).toNatClampNeg) + 50))) = 0 → Ev 2 281 115 [some (.ref 59), some (.int x1), some (.int x2), some (.int x3), some (.int x4), some (.int (x5 + 0)), some (.int (x6 + 1))] [] (hs E M) res) ∧ (¬ (F209 M (Int32.toInt64 ((M 83) (x6 : Int32).toNatClampNeg)) (Int32.toInt64 ((M 73) (x4 : Int32).toNatClampNeg)) (Int32.toInt64 (((M 73) (x4 : Int32).toNatClampNeg) + 50))) = 0 → Ev 2 281 115 [some (.ref 59), some (.int x1), some (.int x2), some (.int x3), some (.int x4), some (.int (x5 + 1)), some (.int (x6 + 1))] [] (hs E M) res)))))))) : Ev 2 281 115 [some (.ref 59), some (.int x1), some (.int x2), some (.int x3), some (.int x4), some (.int x5), some (.int x6)] [] (hs E M) res := by
  refine Ev.steps 4 (pc' := if ((M 59) 33) ≤ x6 then 173 else 124) (L' := [some (.ref 59), some (.int x1), some (.int x2), some (.int x3), some (.int x4), some (.int x5), some (.int x6)]) (st' := []) rfl ?_
  refine Ev_ite (fun hc => ?_) (fun hc => ?_)
  · replace H := H.1 hc
    refine Ev.steps 2 (pc' := 177) (L' := [some (.ref 59), some (.int x1), some (.int x2), some (.int x3), some (.int x4), some (.int x5), some (.int x5)]) (st' := []) rfl ?_
    exact Ev.weak [some (.ref 59), some (.int x1), some (.int x2), some (.int x3), some (.int x4), none, some (.int x5)] (gw_leb_le ⟨rfl, rfl, rfl, rfl, rfl, rfl, trivial⟩) H
  · replace H := H.2 hc
    refine Ev.steps 4 (pc' := 132) (L' := [some (.ref 59), some (.int x1), some (.int x2), some (.int x3), some (.int x4), some (.int x5), some (.int x6)]) (st' := [.int x6, .ref 83, .int x5]) rfl ?_
    refine Ev.rd (i := x6) (n := 900) (pc' := 133) (L' := [some (.ref 59), some (.int x1), some (.int x2), some (.int x3), some (.int x4), some (.int x5), some (.int x6)]) (st' := [.int ((M 83) (x6 : Int32).toNatClampNeg), .int x5]) H.1 rfl ?_
    replace H := H.2
    refine Ev.steps 4 (pc' := 140) (L' := [some (.ref 59), some (.int x1), some (.int x2), some (.int x3), some (.int x4), some (.int x5), some (.int x6)]) (st' := [.int x4, .ref 73, .long (Int32.toInt64 ((M 83) (x6 : Int32).toNatClampNeg)), .int x5]) rfl ?_
    refine Ev.rd (i := x4) (n := 8) (pc' := 141) (L' := [some (.ref 59), some (.int x1), some (.int x2), some (.int x3), some (.int x4), some (.int x5), some (.int x6)]) (st' := [.int ((M 73) (x4 : Int32).toNatClampNeg), .long (Int32.toInt64 ((M 83) (x6 : Int32).toNatClampNeg)), .int x5]) H.1 rfl ?_
    replace H := H.2
    refine Ev.steps 4 (pc' := 148) (L' := [some (.ref 59), some (.int x1), some (.int x2), some (.int x3), some (.int x4), some (.int x5), some (.int x6)]) (st' := [.int x4, .ref 73, .long (Int32.toInt64 ((M 73) (x4 : Int32).toNatClampNeg)), .long (Int32.toInt64 ((M 83) (x6 : Int32).toNatClampNeg)), .int x5]) rfl ?_
    refine Ev.rd (i := x4) (n := 8) (pc' := 149) (L' := [some (.ref 59), some (.int x1), some (.int x2), some (.int x3), some (.int x4), some (.int x5), some (.int x6)]) (st' := [.int ((M 73) (x4 : Int32).toNatClampNeg), .long (Int32.toInt64 ((M 73) (x4 : Int32).toNatClampNeg)), .long (Int32.toInt64 ((M 83) (x6 : Int32).toNatClampNeg)), .int x5]) H.1 rfl ?_
    replace H := H.2
    refine Ev.steps 3 (pc' := 153) (L' := [some (.ref 59), some (.int x1), some (.int x2), some (.int x3), some (.int x4), some (.int x5), some (.int x6)]) (st' := [.long (Int32.toInt64 (((M 73) (x4 : Int32).toNatClampNeg) + 50)), .long (Int32.toInt64 ((M 73) (x4 : Int32).toNatClampNeg)), .long (Int32.toInt64 ((M 83) (x6 : Int32).toNatClampNeg)), .int x5]) rfl ?_
    refine Ev.call (y := 209) (args := [.long (Int32.toInt64 ((M 83) (x6 : Int32).toNatClampNeg)), .long (Int32.toInt64 ((M 73) (x4 : Int32).toNatClampNeg)), .long (Int32.toInt64 (((M 73) (x4 : Int32).toNatClampNeg) + 50))]) (rest := [.int x5]) (r := some (.int (F209 M (Int32.toInt64 ((M 83) (x6 : Int32).toNatClampNeg)) (Int32.toInt64 ((M 73) (x4 : Int32).toNatClampNeg)) (Int32.toInt64 (((M 73) (x4 : Int32).toNatClampNeg) + 50))))) rfl (s209) ?_
    show Ev 2 281 156 [some (.ref 59), some (.int x1), some (.int x2), some (.int x3), some (.int x4), some (.int x5), some (.int x6)] [.int (F209 M (Int32.toInt64 ((M 83) (x6 : Int32).toNatClampNeg)) (Int32.toInt64 ((M 73) (x4 : Int32).toNatClampNeg)) (Int32.toInt64 (((M 73) (x4 : Int32).toNatClampNeg) + 50))), .int x5] _ _
    refine Ev.steps 1 (pc' := if (F209 M (Int32.toInt64 ((M 83) (x6 : Int32).toNatClampNeg)) (Int32.toInt64 ((M 73) (x4 : Int32).toNatClampNeg)) (Int32.toInt64 (((M 73) (x4 : Int32).toNatClampNeg) + 50))) = 0 then 163 else 159) (L' := [some (.ref 59), some (.int x1), some (.int x2), some (.int x3), some (.int x4), some (.int x5), some (.int x6)]) (st' := [.int x5]) rfl ?_
    refine Ev_ite (fun hc => ?_) (fun hc => ?_)
    · replace H := H.1 hc
      refine Ev.steps 5 (pc' := 115) (L' := [some (.ref 59), some (.int x1), some (.int x2), some (.int x3), some (.int x4), some (.int (x5 + 0)), some (.int (x6 + 1))]) (st' := []) rfl ?_
      exact Ev.weak [some (.ref 59), some (.int x1), some (.int x2), some (.int x3), some (.int x4), some (.int (x5 + 0)), some (.int (x6 + 1))] (gw_leb_le ⟨rfl, rfl, rfl, rfl, rfl, rfl, rfl, trivial⟩) H
    · replace H := H.2 hc
      refine Ev.steps 6 (pc' := 115) (L' := [some (.ref 59), some (.int x1), some (.int x2), some (.int x3), some (.int x4), some (.int (x5 + 1)), some (.int (x6 + 1))]) (st' := []) rfl ?_
      exact Ev.weak [some (.ref 59), some (.int x1), some (.int x2), some (.int x3), some (.int x4), some (.int (x5 + 1)), some (.int (x6 + 1))] (gw_leb_le ⟨rfl, rfl, rfl, rfl, rfl, rfl, rfl, trivial⟩) H

set_option maxRecDepth 20000 in
theorem w281_177 {E : gw_N} {M : Mem} {res : Option Value × gw_H} {x1 : Int32} {x2 : Int32} {x3 : Int32} {x4 : Int32} {x6 : Int32} (H : (∃ (r1 : Int32), Rn 279 [.ref 59, .int x4] (hs E M) (some (.int r1)) (hs E M) ∧ ((r1 ≤ x6 → Ev 2 281 9 [some (.ref 59), some (.int x1), some (.int x2), some (.int (x3 + 1)), none, none, none] [] (hs E M) res) ∧ (¬ r1 ≤ x6 → (inb x4 8 ∧ (inb ((M 59) 33) 900 ∧ Ev 2 281 177 [some (.ref 59), some (.int x1), some (.int x2), some (.int x3), some (.int x4), none, some (.int (x6 + 1))] [] (hs E (up (up M 83 (upd (M 83) (((M 59) 33) : Int32).toNatClampNeg (((M 73) (x4 : Int32).toNatClampNeg) + 50))) 59 (upd (M 59) 33 (((M 59) 33) + 1)))) res)))))) : Ev 2 281 177 [some (.ref 59), some (.int x1), some (.int x2), some (.int x3), some (.int x4), none, some (.int x6)] [] (hs E M) res := by
  refine Ev.steps 3 (pc' := 182) (L' := [some (.ref 59), some (.int x1), some (.int x2), some (.int x3), some (.int x4), none, some (.int x6)]) (st' := [.int x4, .ref 59, .int x6]) rfl ?_
  obtain ⟨r1, hr1, H⟩ := H
  refine Ev.call (y := 279) (args := [.ref 59, .int x4]) (rest := [.int x6]) (r := (some (.int r1))) rfl hr1 ?_
  show Ev 2 281 185 [some (.ref 59), some (.int x1), some (.int x2), some (.int x3), some (.int x4), none, some (.int x6)] [.int r1, .int x6] _ _
  refine Ev.steps 1 (pc' := if r1 ≤ x6 then 223 else 188) (L' := [some (.ref 59), some (.int x1), some (.int x2), some (.int x3), some (.int x4), none, some (.int x6)]) (st' := []) rfl ?_
  refine Ev_ite (fun hc => ?_) (fun hc => ?_)
  · replace H := H.1 hc
    refine Ev.steps 2 (pc' := 9) (L' := [some (.ref 59), some (.int x1), some (.int x2), some (.int (x3 + 1)), some (.int x4), none, some (.int x6)]) (st' := []) rfl ?_
    exact Ev.weak [some (.ref 59), some (.int x1), some (.int x2), some (.int (x3 + 1)), none, none, none] (gw_leb_le ⟨rfl, rfl, rfl, rfl, trivial⟩) H
  · replace H := H.2 hc
    refine Ev.steps 7 (pc' := 202) (L' := [some (.ref 59), some (.int x1), some (.int x2), some (.int x3), some (.int x4), none, some (.int x6)]) (st' := [.int x4, .ref 73, .int ((M 59) 33), .ref 83]) rfl ?_
    refine Ev.rd (i := x4) (n := 8) (pc' := 203) (L' := [some (.ref 59), some (.int x1), some (.int x2), some (.int x3), some (.int x4), none, some (.int x6)]) (st' := [.int ((M 73) (x4 : Int32).toNatClampNeg), .int ((M 59) 33), .ref 83]) H.1 rfl ?_
    replace H := H.2
    refine Ev.steps 2 (pc' := 206) (L' := [some (.ref 59), some (.int x1), some (.int x2), some (.int x3), some (.int x4), none, some (.int x6)]) (st' := [.int (((M 73) (x4 : Int32).toNatClampNeg) + 50), .int ((M 59) 33), .ref 83]) rfl ?_
    refine Ev.wr (a := 83) (g := (upd (M 83) (((M 59) 33) : Int32).toNatClampNeg (((M 73) (x4 : Int32).toNatClampNeg) + 50))) (i := ((M 59) 33)) (n := 900) (pc' := 207) (L' := [some (.ref 59), some (.int x1), some (.int x2), some (.int x3), some (.int x4), none, some (.int x6)]) (st' := []) (by decide) H.1 rfl ?_
    replace H := H.2
    refine Ev.steps 5 (pc' := 214) (L' := [some (.ref 59), some (.int x1), some (.int x2), some (.int x3), some (.int x4), none, some (.int x6)]) (st' := [.int (((M 59) 33) + 1), .ref 59]) rfl ?_
    refine Ev.mem (a := 59) (g := (upd (M 59) 33 (((M 59) 33) + 1))) (pc' := 217) (L' := [some (.ref 59), some (.int x1), some (.int x2), some (.int x3), some (.int x4), none, some (.int x6)]) (st' := []) (by decide) rfl ?_
    refine Ev.steps 2 (pc' := 177) (L' := [some (.ref 59), some (.int x1), some (.int x2), some (.int x3), some (.int x4), none, some (.int (x6 + 1))]) (st' := []) rfl ?_
    exact Ev.weak [some (.ref 59), some (.int x1), some (.int x2), some (.int x3), some (.int x4), none, some (.int (x6 + 1))] (gw_leb_le ⟨rfl, rfl, rfl, rfl, rfl, rfl, trivial⟩) H

-- 285 GlassWiresModel frontPull ()I
set_option maxRecDepth 20000 in
theorem w285_0 {E : gw_N} {M : Mem} {res : Option Value × gw_H}  (H : Ev 2 285 4 [some (.ref 59), some (.int 0), some (.int 0), none, none] [] (hs E M) res) : Ev 2 285 0 [some (.ref 59), none, none, none, none] [] (hs E M) res := by
  refine Ev.steps 4 (pc' := 4) (L' := [some (.ref 59), some (.int 0), some (.int 0), none, none]) (st' := []) rfl ?_
  exact Ev.weak [some (.ref 59), some (.int 0), some (.int 0), none, none] (gw_leb_le ⟨rfl, rfl, rfl, trivial⟩) H

set_option maxRecDepth 20000 in
theorem w285_4 {E : gw_N} {M : Mem} {res : Option Value × gw_H} {x1 : Int32} {x2 : Int32} (H : (((F243 M) ≤ x2 → res = (some (.int x1), hs E M)) ∧ (¬ (F243 M) ≤ x2 → Ev 2 285 14 [some (.ref 59), some (.int x1), some (.int x2), some (.int 0), none] [] (hs E M) res))) : Ev 2 285 4 [some (.ref 59), some (.int x1), some (.int x2), none, none] [] (hs E M) res := by
  refine Ev.steps 2 (pc' := 6) (L' := [some (.ref 59), some (.int x1), some (.int x2), none, none]) (st' := [.ref 59, .int x2]) rfl ?_
  refine Ev.call (y := 243) (args := [.ref 59]) (rest := [.int x2]) (r := some (.int (F243 M))) rfl (s243) ?_
  show Ev 2 285 9 [some (.ref 59), some (.int x1), some (.int x2), none, none] [.int (F243 M), .int x2] _ _
  refine Ev.steps 1 (pc' := if (F243 M) ≤ x2 then 81 else 12) (L' := [some (.ref 59), some (.int x1), some (.int x2), none, none]) (st' := []) rfl ?_
  refine Ev_ite (fun hc => ?_) (fun hc => ?_)
  · replace H := H.1 hc
    refine Ev.steps 1 (pc' := 82) (L' := [some (.ref 59), some (.int x1), some (.int x2), none, none]) (st' := [.int x1]) rfl ?_
    subst H
    exact Ev.ret rfl
  · replace H := H.2 hc
    refine Ev.steps 2 (pc' := 14) (L' := [some (.ref 59), some (.int x1), some (.int x2), some (.int 0), none]) (st' := []) rfl ?_
    exact Ev.weak [some (.ref 59), some (.int x1), some (.int x2), some (.int 0), none] (gw_leb_le ⟨rfl, rfl, rfl, rfl, trivial⟩) H

set_option maxRecDepth 20000 in
theorem w285_14 {E : gw_N} {M : Mem} {res : Option Value × gw_H} {x1 : Int32} {x2 : Int32} {x3 : Int32} (H : (inb x2 64 ∧ ((((M 77) (x2 : Int32).toNatClampNeg) ≤ x3 → Ev 2 285 4 [some (.ref 59), some (.int x1), some (.int (x2 + 1)), none, none] [] (hs E M) res) ∧ (¬ ((M 77) (x2 : Int32).toNatClampNeg) ≤ x3 → (inb ((12 * x2) + x3) 768 ∧ ((((M 80) (((12 * x2) + x3) : Int32).toNatClampNeg) ≤ 0 → Ev 2 285 14 [some (.ref 59), some (.int (x1 + 0)), some (.int x2), some (.int (x3 + 1)), none] [] (hs E M) res) ∧ (¬ ((M 80) (((12 * x2) + x3) : Int32).toNatClampNeg) ≤ 0 → (inb ((12 * x2) + x3) 768 ∧ (inb ((12 * x2) + x3) 768 ∧ (inb ((M 78) (((12 * x2) + x3) : Int32).toNatClampNeg) 8 ∧ Ev 2 285 14 [some (.ref 59), some (.int (x1 + (((M 79) (((12 * x2) + x3) : Int32).toNatClampNeg) * ((M 75) (((M 78) (((12 * x2) + x3) : Int32).toNatClampNeg) : Int32).toNatClampNeg)))), some (.int x2), some (.int (x3 + 1)), none] [] (hs E M) res)))))))))) : Ev 2 285 14 [some (.ref 59), some (.int x1), some (.int x2), some (.int x3), none] [] (hs E M) res := by
  refine Ev.steps 4 (pc' := 20) (L' := [some (.ref 59), some (.int x1), some (.int x2), some (.int x3), none]) (st' := [.int x2, .ref 77, .int x3]) rfl ?_
  refine Ev.rd (i := x2) (n := 64) (pc' := 21) (L' := [some (.ref 59), some (.int x1), some (.int x2), some (.int x3), none]) (st' := [.int ((M 77) (x2 : Int32).toNatClampNeg), .int x3]) H.1 rfl ?_
  replace H := H.2
  refine Ev.steps 1 (pc' := if ((M 77) (x2 : Int32).toNatClampNeg) ≤ x3 then 75 else 24) (L' := [some (.ref 59), some (.int x1), some (.int x2), some (.int x3), none]) (st' := []) rfl ?_
  refine Ev_ite (fun hc => ?_) (fun hc => ?_)
  · replace H := H.1 hc
    refine Ev.steps 2 (pc' := 4) (L' := [some (.ref 59), some (.int x1), some (.int (x2 + 1)), some (.int x3), none]) (st' := []) rfl ?_
    exact Ev.weak [some (.ref 59), some (.int x1), some (.int (x2 + 1)), none, none] (gw_leb_le ⟨rfl, rfl, rfl, trivial⟩) H
  · replace H := H.2 hc
    refine Ev.steps 10 (pc' := 39) (L' := [some (.ref 59), some (.int x1), some (.int x2), some (.int x3), some (.int ((12 * x2) + x3))]) (st' := [.int ((12 * x2) + x3), .ref 80, .int x1]) rfl ?_
    refine Ev.rd (i := ((12 * x2) + x3)) (n := 768) (pc' := 40) (L' := [some (.ref 59), some (.int x1), some (.int x2), some (.int x3), some (.int ((12 * x2) + x3))]) (st' := [.int ((M 80) (((12 * x2) + x3) : Int32).toNatClampNeg), .int x1]) H.1 rfl ?_
    replace H := H.2
    refine Ev.steps 1 (pc' := if ((M 80) (((12 * x2) + x3) : Int32).toNatClampNeg) ≤ 0 then 66 else 43) (L' := [some (.ref 59), some (.int x1), some (.int x2), some (.int x3), some (.int ((12 * x2) + x3))]) (st' := [.int x1]) rfl ?_
    refine Ev_ite (fun hc => ?_) (fun hc => ?_)
    · replace H := H.1 hc
      refine Ev.steps 5 (pc' := 14) (L' := [some (.ref 59), some (.int (x1 + 0)), some (.int x2), some (.int (x3 + 1)), some (.int ((12 * x2) + x3))]) (st' := []) rfl ?_
      exact Ev.weak [some (.ref 59), some (.int (x1 + 0)), some (.int x2), some (.int (x3 + 1)), none] (gw_leb_le ⟨rfl, rfl, rfl, rfl, trivial⟩) H
    · replace H := H.2 hc
      refine Ev.steps 3 (pc' := 49) (L' := [some (.ref 59), some (.int x1), some (.int x2), some (.int x3), some (.int ((12 * x2) + x3))]) (st' := [.int ((12 * x2) + x3), .ref 79, .int x1]) rfl ?_
      refine Ev.rd (i := ((12 * x2) + x3)) (n := 768) (pc' := 50) (L' := [some (.ref 59), some (.int x1), some (.int x2), some (.int x3), some (.int ((12 * x2) + x3))]) (st' := [.int ((M 79) (((12 * x2) + x3) : Int32).toNatClampNeg), .int x1]) H.1 rfl ?_
      replace H := H.2
      refine Ev.steps 5 (pc' := 60) (L' := [some (.ref 59), some (.int x1), some (.int x2), some (.int x3), some (.int ((12 * x2) + x3))]) (st' := [.int ((12 * x2) + x3), .ref 78, .ref 75, .int ((M 79) (((12 * x2) + x3) : Int32).toNatClampNeg), .int x1]) rfl ?_
      refine Ev.rd (i := ((12 * x2) + x3)) (n := 768) (pc' := 61) (L' := [some (.ref 59), some (.int x1), some (.int x2), some (.int x3), some (.int ((12 * x2) + x3))]) (st' := [.int ((M 78) (((12 * x2) + x3) : Int32).toNatClampNeg), .ref 75, .int ((M 79) (((12 * x2) + x3) : Int32).toNatClampNeg), .int x1]) H.1 rfl ?_
      replace H := H.2
      refine Ev.rd (i := ((M 78) (((12 * x2) + x3) : Int32).toNatClampNeg)) (n := 8) (pc' := 62) (L' := [some (.ref 59), some (.int x1), some (.int x2), some (.int x3), some (.int ((12 * x2) + x3))]) (st' := [.int ((M 75) (((M 78) (((12 * x2) + x3) : Int32).toNatClampNeg) : Int32).toNatClampNeg), .int ((M 79) (((12 * x2) + x3) : Int32).toNatClampNeg), .int x1]) H.1 rfl ?_
      replace H := H.2
      refine Ev.steps 6 (pc' := 14) (L' := [some (.ref 59), some (.int (x1 + (((M 79) (((12 * x2) + x3) : Int32).toNatClampNeg) * ((M 75) (((M 78) (((12 * x2) + x3) : Int32).toNatClampNeg) : Int32).toNatClampNeg)))), some (.int x2), some (.int (x3 + 1)), some (.int ((12 * x2) + x3))]) (st' := []) rfl ?_
      exact Ev.weak [some (.ref 59), some (.int (x1 + (((M 79) (((12 * x2) + x3) : Int32).toNatClampNeg) * ((M 75) (((M 78) (((12 * x2) + x3) : Int32).toNatClampNeg) : Int32).toNatClampNeg)))), some (.int x2), some (.int (x3 + 1)), none] (gw_leb_le ⟨rfl, rfl, rfl, rfl, trivial⟩) H

-- 297 GlassWiresModel isHarmed (II)Z
set_option maxRecDepth 20000 in
theorem w297_0 {E : gw_N} {M : Mem} {res : Option Value × gw_H} {x1 : Int32} {x2 : Int32} (H : Ev 2 297 5 [some (.ref 59), some (.int x1), some (.int x2), some (.int 0), some (.int 0)] [] (hs E M) res) : Ev 2 297 0 [some (.ref 59), some (.int x1), some (.int x2), none, none] [] (hs E M) res := by
  refine Ev.steps 4 (pc' := 5) (L' := [some (.ref 59), some (.int x1), some (.int x2), some (.int 0), some (.int 0)]) (st' := []) rfl ?_
  exact Ev.weak [some (.ref 59), some (.int x1), some (.int x2), some (.int 0), some (.int 0)] (gw_leb_le ⟨rfl, rfl, rfl, rfl, rfl, trivial⟩) H

set_option maxRecDepth 20000 in
theorem w297_5 {E : gw_N} {M : Mem} {res : Option Value × gw_H} {x1 : Int32} {x2 : Int32} {x3 : Int32} {x4 : Int32} (H : (((F243 M) ≤ x4 → (x3 &&& 1 = x3 ∧ res = (some (.int x3), hs E M))) ∧ (¬ (F243 M) ≤ x4 → ((x3 = 0 → (inb x4 64 ∧ ((((M 69) (x4 : Int32).toNatClampNeg) = x1 → (inb x4 64 ∧ ((((M 77) (x4 : Int32).toNatClampNeg) ≤ 0 → Ev 2 297 5 [some (.ref 59), some (.int x1), some (.int x2), some (.int 0), some (.int (x4 + 1))] [] (hs E M) res) ∧ (¬ ((M 77) (x4 : Int32).toNatClampNeg) ≤ 0 → (P276 M x4 ∧ (inb (F276 M x4) 768 ∧ ((((M 80) ((F276 M x4) : Int32).toNatClampNeg) = 1 → (P276 M x4 ∧ (inb (F276 M x4) 768 ∧ (inb ((M 78) ((F276 M x4) : Int32).toNatClampNeg) 8 ∧ ((x2 ≤ (((M 73) (((M 78) ((F276 M x4) : Int32).toNatClampNeg) : Int32).toNatClampNeg) + 50) → Ev 2 297 5 [some (.ref 59), some (.int x1), some (.int x2), some (.int 0), some (.int (x4 + 1))] [] (hs E M) res) ∧ (¬ x2 ≤ (((M 73) (((M 78) ((F276 M x4) : Int32).toNatClampNeg) : Int32).toNatClampNeg) + 50) → Ev 2 297 5 [some (.ref 59), some (.int x1), some (.int x2), some (.int 1), some (.int (x4 + 1))] [] (hs E M) res)))))) ∧ (¬ ((M 80) ((F276 M x4) : Int32).toNatClampNeg) = 1 → Ev 2 297 5 [some (.ref 59), some (.int x1), some (.int x2), some (.int 0), some (.int (x4 + 1))] [] (hs E M) res)))))))) ∧ (¬ ((M 69) (x4 : Int32).toNatClampNeg) = x1 → Ev 2 297 5 [some (.ref 59), some (.int x1), some (.int x2), some (.int 0), some (.int (x4 + 1))] [] (hs E M) res)))) ∧ (¬ x3 = 0 → Ev 2 297 5 [some (.ref 59), some (.int x1), some (.int x2), some (.int 1), some (.int (x4 + 1))] [] (hs E M) res))))) : Ev 2 297 5 [some (.ref 59), some (.int x1), some (.int x2), some (.int x3), some (.int x4)] [] (hs E M) res := by
  refine Ev.steps 2 (pc' := 8) (L' := [some (.ref 59), some (.int x1), some (.int x2), some (.int x3), some (.int x4)]) (st' := [.ref 59, .int x4]) rfl ?_
  refine Ev.call (y := 243) (args := [.ref 59]) (rest := [.int x4]) (r := some (.int (F243 M))) rfl (s243) ?_
  show Ev 2 297 11 [some (.ref 59), some (.int x1), some (.int x2), some (.int x3), some (.int x4)] [.int (F243 M), .int x4] _ _
  refine Ev.steps 1 (pc' := if (F243 M) ≤ x4 then 89 else 14) (L' := [some (.ref 59), some (.int x1), some (.int x2), some (.int x3), some (.int x4)]) (st' := []) rfl ?_
  refine Ev_ite (fun hc => ?_) (fun hc => ?_)
  · replace H := H.1 hc
    refine Ev.steps 1 (pc' := 90) (L' := [some (.ref 59), some (.int x1), some (.int x2), some (.int x3), some (.int x4)]) (st' := [.int x3]) rfl ?_
    obtain ⟨H1, H⟩ := H
    subst H
    exact Ev.ret (if_pos H1)
  · replace H := H.2 hc
    refine Ev.steps 2 (pc' := if x3 = 0 then 18 else 77) (L' := [some (.ref 59), some (.int x1), some (.int x2), some (.int x3), some (.int x4)]) (st' := []) rfl ?_
    refine Ev_ite (fun hc => ?_) (fun hc => ?_)
    · replace H := H.1 hc
      refine Ev.steps 3 (pc' := 24) (L' := [some (.ref 59), some (.int x1), some (.int x2), some (.int x3), some (.int x4)]) (st' := [.int x4, .ref 69]) rfl ?_
      refine Ev.rd (i := x4) (n := 64) (pc' := 25) (L' := [some (.ref 59), some (.int x1), some (.int x2), some (.int x3), some (.int x4)]) (st' := [.int ((M 69) (x4 : Int32).toNatClampNeg)]) H.1 rfl ?_
      replace H := H.2
      refine Ev.steps 2 (pc' := if ((M 69) (x4 : Int32).toNatClampNeg) = x1 then 29 else 81) (L' := [some (.ref 59), some (.int x1), some (.int x2), some (.int x3), some (.int x4)]) (st' := []) rfl ?_
      refine Ev_ite (fun hc => ?_) (fun hc => ?_)
      · replace H := H.1 hc
        refine Ev.steps 3 (pc' := 35) (L' := [some (.ref 59), some (.int x1), some (.int x2), some (.int x3), some (.int x4)]) (st' := [.int x4, .ref 77]) rfl ?_
        refine Ev.rd (i := x4) (n := 64) (pc' := 36) (L' := [some (.ref 59), some (.int x1), some (.int x2), some (.int x3), some (.int x4)]) (st' := [.int ((M 77) (x4 : Int32).toNatClampNeg)]) H.1 rfl ?_
        replace H := H.2
        refine Ev.steps 1 (pc' := if ((M 77) (x4 : Int32).toNatClampNeg) ≤ 0 then 81 else 39) (L' := [some (.ref 59), some (.int x1), some (.int x2), some (.int x3), some (.int x4)]) (st' := []) rfl ?_
        refine Ev_ite (fun hc => ?_) (fun hc => ?_)
        · replace H := H.1 hc
          refine Ev.steps 4 (pc' := 5) (L' := [some (.ref 59), some (.int x1), some (.int x2), some (.int 0), some (.int (x4 + 1))]) (st' := []) rfl ?_
          exact Ev.weak [some (.ref 59), some (.int x1), some (.int x2), some (.int 0), some (.int (x4 + 1))] (gw_leb_le ⟨rfl, rfl, rfl, rfl, rfl, trivial⟩) H
        · replace H := H.2 hc
          refine Ev.steps 4 (pc' := 46) (L' := [some (.ref 59), some (.int x1), some (.int x2), some (.int x3), some (.int x4)]) (st' := [.int x4, .ref 59, .ref 80]) rfl ?_
          refine Ev.call (y := 276) (args := [.ref 59, .int x4]) (rest := [.ref 80]) (r := some (.int (F276 M x4))) rfl (s276 H.1) ?_
          replace H := H.2
          show Ev 2 297 49 [some (.ref 59), some (.int x1), some (.int x2), some (.int x3), some (.int x4)] [.int (F276 M x4), .ref 80] _ _
          refine Ev.rd (i := (F276 M x4)) (n := 768) (pc' := 50) (L' := [some (.ref 59), some (.int x1), some (.int x2), some (.int x3), some (.int x4)]) (st' := [.int ((M 80) ((F276 M x4) : Int32).toNatClampNeg)]) H.1 rfl ?_
          replace H := H.2
          refine Ev.steps 2 (pc' := if ((M 80) ((F276 M x4) : Int32).toNatClampNeg) = 1 then 54 else 81) (L' := [some (.ref 59), some (.int x1), some (.int x2), some (.int x3), some (.int x4)]) (st' := []) rfl ?_
          refine Ev_ite (fun hc => ?_) (fun hc => ?_)
          · replace H := H.1 hc
            refine Ev.steps 6 (pc' := 65) (L' := [some (.ref 59), some (.int x1), some (.int x2), some (.int x3), some (.int x4)]) (st' := [.int x4, .ref 59, .ref 78, .ref 73]) rfl ?_
            refine Ev.call (y := 276) (args := [.ref 59, .int x4]) (rest := [.ref 78, .ref 73]) (r := some (.int (F276 M x4))) rfl (s276 H.1) ?_
            replace H := H.2
            show Ev 2 297 68 [some (.ref 59), some (.int x1), some (.int x2), some (.int x3), some (.int x4)] [.int (F276 M x4), .ref 78, .ref 73] _ _
            refine Ev.rd (i := (F276 M x4)) (n := 768) (pc' := 69) (L' := [some (.ref 59), some (.int x1), some (.int x2), some (.int x3), some (.int x4)]) (st' := [.int ((M 78) ((F276 M x4) : Int32).toNatClampNeg), .ref 73]) H.1 rfl ?_
            replace H := H.2
            refine Ev.rd (i := ((M 78) ((F276 M x4) : Int32).toNatClampNeg)) (n := 8) (pc' := 70) (L' := [some (.ref 59), some (.int x1), some (.int x2), some (.int x3), some (.int x4)]) (st' := [.int ((M 73) (((M 78) ((F276 M x4) : Int32).toNatClampNeg) : Int32).toNatClampNeg)]) H.1 rfl ?_
            replace H := H.2
            refine Ev.steps 4 (pc' := if x2 ≤ (((M 73) (((M 78) ((F276 M x4) : Int32).toNatClampNeg) : Int32).toNatClampNeg) + 50) then 81 else 77) (L' := [some (.ref 59), some (.int x1), some (.int x2), some (.int x3), some (.int x4)]) (st' := []) rfl ?_
            refine Ev_ite (fun hc => ?_) (fun hc => ?_)
            · replace H := H.1 hc
              refine Ev.steps 4 (pc' := 5) (L' := [some (.ref 59), some (.int x1), some (.int x2), some (.int 0), some (.int (x4 + 1))]) (st' := []) rfl ?_
              exact Ev.weak [some (.ref 59), some (.int x1), some (.int x2), some (.int 0), some (.int (x4 + 1))] (gw_leb_le ⟨rfl, rfl, rfl, rfl, rfl, trivial⟩) H
            · replace H := H.2 hc
              refine Ev.steps 5 (pc' := 5) (L' := [some (.ref 59), some (.int x1), some (.int x2), some (.int 1), some (.int (x4 + 1))]) (st' := []) rfl ?_
              exact Ev.weak [some (.ref 59), some (.int x1), some (.int x2), some (.int 1), some (.int (x4 + 1))] (gw_leb_le ⟨rfl, rfl, rfl, rfl, rfl, trivial⟩) H
          · replace H := H.2 hc
            refine Ev.steps 4 (pc' := 5) (L' := [some (.ref 59), some (.int x1), some (.int x2), some (.int 0), some (.int (x4 + 1))]) (st' := []) rfl ?_
            exact Ev.weak [some (.ref 59), some (.int x1), some (.int x2), some (.int 0), some (.int (x4 + 1))] (gw_leb_le ⟨rfl, rfl, rfl, rfl, rfl, trivial⟩) H
      · replace H := H.2 hc
        refine Ev.steps 4 (pc' := 5) (L' := [some (.ref 59), some (.int x1), some (.int x2), some (.int 0), some (.int (x4 + 1))]) (st' := []) rfl ?_
        exact Ev.weak [some (.ref 59), some (.int x1), some (.int x2), some (.int 0), some (.int (x4 + 1))] (gw_leb_le ⟨rfl, rfl, rfl, rfl, rfl, trivial⟩) H
    · replace H := H.2 hc
      refine Ev.steps 5 (pc' := 5) (L' := [some (.ref 59), some (.int x1), some (.int x2), some (.int 1), some (.int (x4 + 1))]) (st' := []) rfl ?_
      exact Ev.weak [some (.ref 59), some (.int x1), some (.int x2), some (.int 1), some (.int (x4 + 1))] (gw_leb_le ⟨rfl, rfl, rfl, rfl, rfl, trivial⟩) H

