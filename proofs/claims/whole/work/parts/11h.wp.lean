/-! by program (wp.py): formulas that are enough -/
-- 258 GlassWiresModel findPaints ()I
set_option maxRecDepth 20000 in
theorem w258_0 {E : gw_N} {M : Mem} {res : Option Value × gw_H}  (H : Ev 3 258 2 [some (.ref 59), some (.int 0), none, none, none, none] [] (hs E M) res) : Ev 3 258 0 [some (.ref 59), none, none, none, none, none] [] (hs E M) res := by
  refine Ev.steps 2 (pc' := 2) (L' := [some (.ref 59), some (.int 0), none, none, none, none]) (st' := []) rfl ?_
  exact Ev.weak [some (.ref 59), some (.int 0), none, none, none, none] (gw_leb_le ⟨rfl, rfl, trivial⟩) H

set_option maxRecDepth 20000 in
theorem w258_2 {E : gw_N} {M : Mem} {res : Option Value × gw_H} {x1 : Int32} (H : ((100 ≤ x1 → Ev 3 258 23 [some (.ref 59), some (.int 0), none, none, none, none] [] (hs E M) res) ∧ (¬ 100 ≤ x1 → (inb x1 100 ∧ Ev 3 258 2 [some (.ref 59), some (.int (x1 + 1)), none, none, none, none] [] (hs E (up M 71 (upd (M 71) (x1 : Int32).toNatClampNeg (0 &&& 1)))) res)))) : Ev 3 258 2 [some (.ref 59), some (.int x1), none, none, none, none] [] (hs E M) res := by
  refine Ev.steps 3 (pc' := if 100 ≤ x1 then 21 else 8) (L' := [some (.ref 59), some (.int x1), none, none, none, none]) (st' := []) rfl ?_
  refine Ev_ite (fun hc => ?_) (fun hc => ?_)
  · replace H := H.1 hc
    refine Ev.steps 2 (pc' := 23) (L' := [some (.ref 59), some (.int 0), none, none, none, none]) (st' := []) rfl ?_
    exact Ev.weak [some (.ref 59), some (.int 0), none, none, none, none] (gw_leb_le ⟨rfl, rfl, trivial⟩) H
  · replace H := H.2 hc
    refine Ev.steps 4 (pc' := 14) (L' := [some (.ref 59), some (.int x1), none, none, none, none]) (st' := [.int 0, .int x1, .ref 71]) rfl ?_
    refine Ev.wr (a := 71) (g := (upd (M 71) (x1 : Int32).toNatClampNeg (0 &&& 1))) (i := x1) (n := 100) (pc' := 15) (L' := [some (.ref 59), some (.int x1), none, none, none, none]) (st' := []) (by decide) H.1 rfl ?_
    replace H := H.2
    refine Ev.steps 2 (pc' := 2) (L' := [some (.ref 59), some (.int (x1 + 1)), none, none, none, none]) (st' := []) rfl ?_
    exact Ev.weak [some (.ref 59), some (.int (x1 + 1)), none, none, none, none] (gw_leb_le ⟨rfl, rfl, trivial⟩) H

set_option maxRecDepth 20000 in
theorem w258_23 {E : gw_N} {M : Mem} {res : Option Value × gw_H} {x1 : Int32} (H : (((F243 M) ≤ x1 → Ev 3 258 131 [some (.ref 59), some (.int 1), none, none, none, none] [] (hs E M) res) ∧ (¬ (F243 M) ≤ x1 → Ev 3 258 33 [some (.ref 59), some (.int x1), some (.int 0), none, none, none] [] (hs E M) res))) : Ev 3 258 23 [some (.ref 59), some (.int x1), none, none, none, none] [] (hs E M) res := by
  refine Ev.steps 2 (pc' := 25) (L' := [some (.ref 59), some (.int x1), none, none, none, none]) (st' := [.ref 59, .int x1]) rfl ?_
  refine Ev.call (y := 243) (args := [.ref 59]) (rest := [.int x1]) (r := some (.int (F243 M))) rfl (s243) ?_
  show Ev 3 258 28 [some (.ref 59), some (.int x1), none, none, none, none] [.int (F243 M), .int x1] _ _
  refine Ev.steps 1 (pc' := if (F243 M) ≤ x1 then 129 else 31) (L' := [some (.ref 59), some (.int x1), none, none, none, none]) (st' := []) rfl ?_
  refine Ev_ite (fun hc => ?_) (fun hc => ?_)
  · replace H := H.1 hc
    refine Ev.steps 2 (pc' := 131) (L' := [some (.ref 59), some (.int 1), none, none, none, none]) (st' := []) rfl ?_
    exact Ev.weak [some (.ref 59), some (.int 1), none, none, none, none] (gw_leb_le ⟨rfl, rfl, trivial⟩) H
  · replace H := H.2 hc
    refine Ev.steps 2 (pc' := 33) (L' := [some (.ref 59), some (.int x1), some (.int 0), none, none, none]) (st' := []) rfl ?_
    exact Ev.weak [some (.ref 59), some (.int x1), some (.int 0), none, none, none] (gw_leb_le ⟨rfl, rfl, rfl, trivial⟩) H

set_option maxRecDepth 20000 in
theorem w258_131 {E : gw_N} {M : Mem} {res : Option Value × gw_H} {x1 : Int32} (H : (∃ (r1 : Int32) (M1 : Mem), Rn 257 [.ref 59, .int x1] (hs E M) (some (.int r1)) (hs E M1) ∧ ((r1 = 0 → Ev 3 258 131 [some (.ref 59), some (.int (x1 + 1)), none, none, none, none] [] (hs E M1) res) ∧ (¬ r1 = 0 → res = (some (.int x1), hs E M1))))) : Ev 3 258 131 [some (.ref 59), some (.int x1), none, none, none, none] [] (hs E M) res := by
  refine Ev.steps 2 (pc' := 133) (L' := [some (.ref 59), some (.int x1), none, none, none, none]) (st' := [.int x1, .ref 59]) rfl ?_
  obtain ⟨r1, M1, hr1, H⟩ := H
  refine Ev.call (y := 257) (args := [.ref 59, .int x1]) (rest := []) (r := (some (.int r1))) rfl hr1 ?_
  show Ev 3 258 136 [some (.ref 59), some (.int x1), none, none, none, none] [.int r1] _ _
  refine Ev.steps 1 (pc' := if r1 = 0 then 139 else 145) (L' := [some (.ref 59), some (.int x1), none, none, none, none]) (st' := []) rfl ?_
  refine Ev_ite (fun hc => ?_) (fun hc => ?_)
  · replace H := H.1 hc
    refine Ev.steps 2 (pc' := 131) (L' := [some (.ref 59), some (.int (x1 + 1)), none, none, none, none]) (st' := []) rfl ?_
    exact Ev.weak [some (.ref 59), some (.int (x1 + 1)), none, none, none, none] (gw_leb_le ⟨rfl, rfl, trivial⟩) H
  · replace H := H.2 hc
    refine Ev.steps 1 (pc' := 146) (L' := [some (.ref 59), some (.int x1), none, none, none, none]) (st' := [.int x1]) rfl ?_
    subst H
    exact Ev.ret rfl

set_option maxRecDepth 20000 in
theorem w258_33 {E : gw_N} {M : Mem} {res : Option Value × gw_H} {x1 : Int32} {x2 : Int32} (H : ((2 ≤ x2 → Ev 3 258 23 [some (.ref 59), some (.int (x1 + 1)), none, none, none, none] [] (hs E M) res) ∧ (¬ 2 ≤ x2 → (P245 M x1 x2 ∧ (((F245 M x1 x2) = (-1) → Ev 3 258 33 [some (.ref 59), some (.int x1), some (.int (x2 + 1)), none, none, none] [] (hs E M) res) ∧ (¬ (F245 M x1 x2) = (-1) → (inb x1 64 ∧ (inb (F245 M x1 x2) 64 ∧ ((((M 69) (x1 : Int32).toNatClampNeg) = ((M 69) ((F245 M x1 x2) : Int32).toNatClampNeg) → Ev 3 258 33 [some (.ref 59), some (.int x1), some (.int (x2 + 1)), none, none, none] [] (hs E M) res) ∧ (¬ ((M 69) (x1 : Int32).toNatClampNeg) = ((M 69) ((F245 M x1 x2) : Int32).toNatClampNeg) → (inb x1 64 ∧ (∃ (r1 : Int32), Rn 254 [.ref 59, .int ((M 69) (x1 : Int32).toNatClampNeg)] (hs E M) (some (.int r1)) (hs E M) ∧ (inb (F245 M x1 x2) 64 ∧ (∃ (r2 : Int32), Rn 254 [.ref 59, .int ((M 69) ((F245 M x1 x2) : Int32).toNatClampNeg)] (hs E M) (some (.int r2)) (hs E M) ∧ (inb ((10 * r1) + r2) 100 ∧ (inb ((10 * r2) + r1) 100 ∧ Ev 3 258 33 [some (.ref 59), some (.int x1), some (.int (x2 + 1)), none, none, none] [] (hs E (up M 71 (upd (upd (M 71) (((10 * r1) + r2) : Int32).toNatClampNeg (1 &&& 1)) (((10 * r2) + r1) : Int32).toNatClampNeg (1 &&& 1)))) res)))))))))))))))) : Ev 3 258 33 [some (.ref 59), some (.int x1), some (.int x2), none, none, none] [] (hs E M) res := by
  refine Ev.steps 3 (pc' := if 2 ≤ x2 then 123 else 38) (L' := [some (.ref 59), some (.int x1), some (.int x2), none, none, none]) (st' := []) rfl ?_
  refine Ev_ite (fun hc => ?_) (fun hc => ?_)
  · replace H := H.1 hc
    refine Ev.steps 2 (pc' := 23) (L' := [some (.ref 59), some (.int (x1 + 1)), some (.int x2), none, none, none]) (st' := []) rfl ?_
    exact Ev.weak [some (.ref 59), some (.int (x1 + 1)), none, none, none, none] (gw_leb_le ⟨rfl, rfl, trivial⟩) H
  · replace H := H.2 hc
    refine Ev.steps 3 (pc' := 41) (L' := [some (.ref 59), some (.int x1), some (.int x2), none, none, none]) (st' := [.int x2, .int x1, .ref 59]) rfl ?_
    refine Ev.call (y := 245) (args := [.ref 59, .int x1, .int x2]) (rest := []) (r := some (.int (F245 M x1 x2))) rfl (s245 H.1) ?_
    replace H := H.2
    show Ev 3 258 44 [some (.ref 59), some (.int x1), some (.int x2), none, none, none] [.int (F245 M x1 x2)] _ _
    refine Ev.steps 4 (pc' := if (F245 M x1 x2) = (-1) then 117 else 50) (L' := [some (.ref 59), some (.int x1), some (.int x2), some (.int (F245 M x1 x2)), none, none]) (st' := []) rfl ?_
    refine Ev_ite (fun hc => ?_) (fun hc => ?_)
    · replace H := H.1 hc
      refine Ev.steps 2 (pc' := 33) (L' := [some (.ref 59), some (.int x1), some (.int (x2 + 1)), some (.int (F245 M x1 x2)), none, none]) (st' := []) rfl ?_
      exact Ev.weak [some (.ref 59), some (.int x1), some (.int (x2 + 1)), none, none, none] (gw_leb_le ⟨rfl, rfl, rfl, trivial⟩) H
    · replace H := H.2 hc
      refine Ev.steps 3 (pc' := 55) (L' := [some (.ref 59), some (.int x1), some (.int x2), some (.int (F245 M x1 x2)), none, none]) (st' := [.int x1, .ref 69]) rfl ?_
      refine Ev.rd (i := x1) (n := 64) (pc' := 56) (L' := [some (.ref 59), some (.int x1), some (.int x2), some (.int (F245 M x1 x2)), none, none]) (st' := [.int ((M 69) (x1 : Int32).toNatClampNeg)]) H.1 rfl ?_
      replace H := H.2
      refine Ev.steps 3 (pc' := 61) (L' := [some (.ref 59), some (.int x1), some (.int x2), some (.int (F245 M x1 x2)), none, none]) (st' := [.int (F245 M x1 x2), .ref 69, .int ((M 69) (x1 : Int32).toNatClampNeg)]) rfl ?_
      refine Ev.rd (i := (F245 M x1 x2)) (n := 64) (pc' := 62) (L' := [some (.ref 59), some (.int x1), some (.int x2), some (.int (F245 M x1 x2)), none, none]) (st' := [.int ((M 69) ((F245 M x1 x2) : Int32).toNatClampNeg), .int ((M 69) (x1 : Int32).toNatClampNeg)]) H.1 rfl ?_
      replace H := H.2
      refine Ev.steps 1 (pc' := if ((M 69) (x1 : Int32).toNatClampNeg) = ((M 69) ((F245 M x1 x2) : Int32).toNatClampNeg) then 117 else 65) (L' := [some (.ref 59), some (.int x1), some (.int x2), some (.int (F245 M x1 x2)), none, none]) (st' := []) rfl ?_
      refine Ev_ite (fun hc => ?_) (fun hc => ?_)
      · replace H := H.1 hc
        refine Ev.steps 2 (pc' := 33) (L' := [some (.ref 59), some (.int x1), some (.int (x2 + 1)), some (.int (F245 M x1 x2)), none, none]) (st' := []) rfl ?_
        exact Ev.weak [some (.ref 59), some (.int x1), some (.int (x2 + 1)), none, none, none] (gw_leb_le ⟨rfl, rfl, rfl, trivial⟩) H
      · replace H := H.2 hc
        refine Ev.steps 4 (pc' := 71) (L' := [some (.ref 59), some (.int x1), some (.int x2), some (.int (F245 M x1 x2)), none, none]) (st' := [.int x1, .ref 69, .ref 59]) rfl ?_
        refine Ev.rd (i := x1) (n := 64) (pc' := 72) (L' := [some (.ref 59), some (.int x1), some (.int x2), some (.int (F245 M x1 x2)), none, none]) (st' := [.int ((M 69) (x1 : Int32).toNatClampNeg), .ref 59]) H.1 rfl ?_
        replace H := H.2
        obtain ⟨r1, hr1, H⟩ := H
        refine Ev.call (y := 254) (args := [.ref 59, .int ((M 69) (x1 : Int32).toNatClampNeg)]) (rest := []) (r := (some (.int r1))) rfl hr1 ?_
        show Ev 3 258 75 [some (.ref 59), some (.int x1), some (.int x2), some (.int (F245 M x1 x2)), none, none] [.int r1] _ _
        refine Ev.steps 5 (pc' := 83) (L' := [some (.ref 59), some (.int x1), some (.int x2), some (.int (F245 M x1 x2)), some (.int r1), none]) (st' := [.int (F245 M x1 x2), .ref 69, .ref 59]) rfl ?_
        refine Ev.rd (i := (F245 M x1 x2)) (n := 64) (pc' := 84) (L' := [some (.ref 59), some (.int x1), some (.int x2), some (.int (F245 M x1 x2)), some (.int r1), none]) (st' := [.int ((M 69) ((F245 M x1 x2) : Int32).toNatClampNeg), .ref 59]) H.1 rfl ?_
        replace H := H.2
        obtain ⟨r2, hr2, H⟩ := H
        refine Ev.call (y := 254) (args := [.ref 59, .int ((M 69) ((F245 M x1 x2) : Int32).toNatClampNeg)]) (rest := []) (r := (some (.int r2))) rfl hr2 ?_
        show Ev 3 258 87 [some (.ref 59), some (.int x1), some (.int x2), some (.int (F245 M x1 x2)), some (.int r1), none] [.int r2] _ _
        refine Ev.steps 9 (pc' := 102) (L' := [some (.ref 59), some (.int x1), some (.int x2), some (.int (F245 M x1 x2)), some (.int r1), some (.int r2)]) (st' := [.int 1, .int ((10 * r1) + r2), .ref 71]) rfl ?_
        refine Ev.wr (a := 71) (g := (upd (M 71) (((10 * r1) + r2) : Int32).toNatClampNeg (1 &&& 1))) (i := ((10 * r1) + r2)) (n := 100) (pc' := 103) (L' := [some (.ref 59), some (.int x1), some (.int x2), some (.int (F245 M x1 x2)), some (.int r1), some (.int r2)]) (st' := []) (by decide) H.1 rfl ?_
        replace H := H.2
        refine Ev.steps 8 (pc' := 116) (L' := [some (.ref 59), some (.int x1), some (.int x2), some (.int (F245 M x1 x2)), some (.int r1), some (.int r2)]) (st' := [.int 1, .int ((10 * r2) + r1), .ref 71]) rfl ?_
        refine Ev.wr (a := 71) (g := (upd (upd (M 71) (((10 * r1) + r2) : Int32).toNatClampNeg (1 &&& 1)) (((10 * r2) + r1) : Int32).toNatClampNeg (1 &&& 1))) (i := ((10 * r2) + r1)) (n := 100) (pc' := 117) (L' := [some (.ref 59), some (.int x1), some (.int x2), some (.int (F245 M x1 x2)), some (.int r1), some (.int r2)]) (st' := []) (by decide) H.1 rfl ?_
        replace H := H.2
        refine Ev.mto (M' := (up M 71 (upd (upd (M 71) (((10 * r1) + r2) : Int32).toNatClampNeg (1 &&& 1)) (((10 * r2) + r1) : Int32).toNatClampNeg (1 &&& 1)))) (by funext q9; unfold up; by_cases e9 : q9 = 71 <;> simp [e9]) ?_
        refine Ev.steps 2 (pc' := 33) (L' := [some (.ref 59), some (.int x1), some (.int (x2 + 1)), some (.int (F245 M x1 x2)), some (.int r1), some (.int r2)]) (st' := []) rfl ?_
        exact Ev.weak [some (.ref 59), some (.int x1), some (.int (x2 + 1)), none, none, none] (gw_leb_le ⟨rfl, rfl, rfl, trivial⟩) H

-- 262 GlassWiresModel colour (III)I
set_option maxRecDepth 20000 in
theorem w262_0 {E : gw_N} {M : Mem} {res : Option Value × gw_H} {x1 : Int32} {x2 : Int32} {x3 : Int32} (H : (((F261 M x1) = 0 → Ev 3 262 19 [none, none, none, none, none] [] (hs E M) res) ∧ (¬ (F261 M x1) = 0 → (((F209 M (Int32.toInt64 x2) 0 2) = 0 → Ev 3 262 19 [none, none, none, none, none] [] (hs E M) res) ∧ (¬ (F209 M (Int32.toInt64 x2) 0 2) = 0 → ((x2 = 0 → Ev 3 262 33 [some (.ref 59), some (.int x1), some (.int x2), some (.int x3), none] [.long 1, .long (Int32.toInt64 x3)] (hs E M) res) ∧ (¬ x2 = 0 → Ev 3 262 33 [some (.ref 59), some (.int x1), some (.int x2), some (.int x3), none] [.long 0, .long (Int32.toInt64 x3)] (hs E M) res))))))) : Ev 3 262 0 [some (.ref 59), some (.int x1), some (.int x2), some (.int x3), none] [] (hs E M) res := by
  refine Ev.steps 1 (pc' := 1) (L' := [some (.ref 59), some (.int x1), some (.int x2), some (.int x3), none]) (st' := [.int x1]) rfl ?_
  refine Ev.call (y := 261) (args := [.int x1]) (rest := []) (r := some (.int (F261 M x1))) rfl (s261) ?_
  show Ev 3 262 4 [some (.ref 59), some (.int x1), some (.int x2), some (.int x3), none] [.int (F261 M x1)] _ _
  refine Ev.steps 1 (pc' := if (F261 M x1) = 0 then 19 else 7) (L' := [some (.ref 59), some (.int x1), some (.int x2), some (.int x3), none]) (st' := []) rfl ?_
  refine Ev_ite (fun hc => ?_) (fun hc => ?_)
  · replace H := H.1 hc
    exact Ev.weak [none, none, none, none, none] (gw_leb_le trivial) H
  · replace H := H.2 hc
    refine Ev.steps 4 (pc' := 13) (L' := [some (.ref 59), some (.int x1), some (.int x2), some (.int x3), none]) (st' := [.long 2, .long 0, .long (Int32.toInt64 x2)]) rfl ?_
    refine Ev.call (y := 209) (args := [.long (Int32.toInt64 x2), .long 0, .long 2]) (rest := []) (r := some (.int (F209 M (Int32.toInt64 x2) 0 2))) rfl (s209) ?_
    show Ev 3 262 16 [some (.ref 59), some (.int x1), some (.int x2), some (.int x3), none] [.int (F209 M (Int32.toInt64 x2) 0 2)] _ _
    refine Ev.steps 1 (pc' := if (F209 M (Int32.toInt64 x2) 0 2) = 0 then 19 else 22) (L' := [some (.ref 59), some (.int x1), some (.int x2), some (.int x3), none]) (st' := []) rfl ?_
    refine Ev_ite (fun hc => ?_) (fun hc => ?_)
    · replace H := H.1 hc
      exact Ev.weak [none, none, none, none, none] (gw_leb_le trivial) H
    · replace H := H.2 hc
      refine Ev.steps 4 (pc' := if x2 = 0 then 28 else 32) (L' := [some (.ref 59), some (.int x1), some (.int x2), some (.int x3), none]) (st' := [.long (Int32.toInt64 x3)]) rfl ?_
      refine Ev_ite (fun hc => ?_) (fun hc => ?_)
      · replace H := H.1 hc
        refine Ev.steps 2 (pc' := 33) (L' := [some (.ref 59), some (.int x1), some (.int x2), some (.int x3), none]) (st' := [.long 1, .long (Int32.toInt64 x3)]) rfl ?_
        exact Ev.weak [some (.ref 59), some (.int x1), some (.int x2), some (.int x3), none] (gw_leb_le ⟨rfl, rfl, rfl, rfl, trivial⟩) H
      · replace H := H.2 hc
        refine Ev.steps 1 (pc' := 33) (L' := [some (.ref 59), some (.int x1), some (.int x2), some (.int x3), none]) (st' := [.long 0, .long (Int32.toInt64 x3)]) rfl ?_
        exact Ev.weak [some (.ref 59), some (.int x1), some (.int x2), some (.int x3), none] (gw_leb_le ⟨rfl, rfl, rfl, rfl, trivial⟩) H

set_option maxRecDepth 20000 in
theorem w262_19 {E : gw_N} {M : Mem} {res : Option Value × gw_H}  (H : res = (some (.int (-101)), hs E M)) : Ev 3 262 19 [none, none, none, none, none] [] (hs E M) res := by
  refine Ev.steps 1 (pc' := 21) (L' := [none, none, none, none, none]) (st' := [.int (-101)]) rfl ?_
  subst H
  exact Ev.ret rfl

set_option maxRecDepth 20000 in
theorem w262_33 {E : gw_N} {M : Mem} {res : Option Value × gw_H} {x1 : Int32} {x2 : Int32} {x3 : Int32} {y0 : Int64} {y1 : Int64} (H : ((x2 = 0 → Ev 3 262 57 [some (.ref 59), some (.int x1), some (.int x2), some (.int x3), none] [.long 900, .long y1, .long y0] (hs E M) res) ∧ (¬ x2 = 0 → ((x2 = 1 → Ev 3 262 57 [some (.ref 59), some (.int x1), some (.int x2), some (.int x3), none] [.long 9, .long y1, .long y0] (hs E M) res) ∧ (¬ x2 = 1 → Ev 3 262 57 [some (.ref 59), some (.int x1), some (.int x2), some (.int x3), none] [.long 99, .long y1, .long y0] (hs E M) res))))) : Ev 3 262 33 [some (.ref 59), some (.int x1), some (.int x2), some (.int x3), none] [.long y1, .long y0] (hs E M) res := by
  refine Ev.steps 2 (pc' := if x2 = 0 then 37 else 43) (L' := [some (.ref 59), some (.int x1), some (.int x2), some (.int x3), none]) (st' := [.long y1, .long y0]) rfl ?_
  refine Ev_ite (fun hc => ?_) (fun hc => ?_)
  · replace H := H.1 hc
    refine Ev.steps 2 (pc' := 57) (L' := [some (.ref 59), some (.int x1), some (.int x2), some (.int x3), none]) (st' := [.long 900, .long y1, .long y0]) rfl ?_
    exact Ev.weak [some (.ref 59), some (.int x1), some (.int x2), some (.int x3), none] (gw_leb_le ⟨rfl, rfl, rfl, rfl, trivial⟩) H
  · replace H := H.2 hc
    refine Ev.steps 3 (pc' := if x2 = 1 then 48 else 54) (L' := [some (.ref 59), some (.int x1), some (.int x2), some (.int x3), none]) (st' := [.long y1, .long y0]) rfl ?_
    refine Ev_ite (fun hc => ?_) (fun hc => ?_)
    · replace H := H.1 hc
      refine Ev.steps 2 (pc' := 57) (L' := [some (.ref 59), some (.int x1), some (.int x2), some (.int x3), none]) (st' := [.long 9, .long y1, .long y0]) rfl ?_
      exact Ev.weak [some (.ref 59), some (.int x1), some (.int x2), some (.int x3), none] (gw_leb_le ⟨rfl, rfl, rfl, rfl, trivial⟩) H
    · replace H := H.2 hc
      refine Ev.steps 1 (pc' := 57) (L' := [some (.ref 59), some (.int x1), some (.int x2), some (.int x3), none]) (st' := [.long 99, .long y1, .long y0]) rfl ?_
      exact Ev.weak [some (.ref 59), some (.int x1), some (.int x2), some (.int x3), none] (gw_leb_le ⟨rfl, rfl, rfl, rfl, trivial⟩) H

set_option maxRecDepth 20000 in
theorem w262_57 {E : gw_N} {M : Mem} {res : Option Value × gw_H} {x1 : Int32} {x2 : Int32} {x3 : Int32} {y0 : Int64} {y1 : Int64} {y2 : Int64} (H : (((F209 M y0 y1 y2) = 0 → res = (some (.int (-102)), hs E M)) ∧ (¬ (F209 M y0 y1 y2) = 0 → ((x2 = 0 → (inb x1 8 ∧ Ev 3 262 99 [some (.ref 59), some (.int x1), some (.int x2), some (.int x3), none] [.int ((M 73) (x1 : Int32).toNatClampNeg)] (hs E M) res)) ∧ (¬ x2 = 0 → ((x2 = 1 → (inb x1 8 ∧ Ev 3 262 99 [some (.ref 59), some (.int x1), some (.int x2), some (.int x3), none] [.int ((M 74) (x1 : Int32).toNatClampNeg)] (hs E M) res)) ∧ (¬ x2 = 1 → (inb x1 8 ∧ Ev 3 262 99 [some (.ref 59), some (.int x1), some (.int x2), some (.int x3), none] [.int ((M 75) (x1 : Int32).toNatClampNeg)] (hs E M) res)))))))) : Ev 3 262 57 [some (.ref 59), some (.int x1), some (.int x2), some (.int x3), none] [.long y2, .long y1, .long y0] (hs E M) res := by
  refine Ev.call (y := 209) (args := [.long y0, .long y1, .long y2]) (rest := []) (r := some (.int (F209 M y0 y1 y2))) rfl (s209) ?_
  show Ev 3 262 60 [some (.ref 59), some (.int x1), some (.int x2), some (.int x3), none] [.int (F209 M y0 y1 y2)] _ _
  refine Ev.steps 1 (pc' := if (F209 M y0 y1 y2) = 0 then 63 else 66) (L' := [some (.ref 59), some (.int x1), some (.int x2), some (.int x3), none]) (st' := []) rfl ?_
  refine Ev_ite (fun hc => ?_) (fun hc => ?_)
  · replace H := H.1 hc
    refine Ev.steps 1 (pc' := 65) (L' := [some (.ref 59), some (.int x1), some (.int x2), some (.int x3), none]) (st' := [.int (-102)]) rfl ?_
    subst H
    exact Ev.ret rfl
  · replace H := H.2 hc
    refine Ev.steps 2 (pc' := if x2 = 0 then 70 else 79) (L' := [some (.ref 59), some (.int x1), some (.int x2), some (.int x3), none]) (st' := []) rfl ?_
    refine Ev_ite (fun hc => ?_) (fun hc => ?_)
    · replace H := H.1 hc
      refine Ev.steps 3 (pc' := 75) (L' := [some (.ref 59), some (.int x1), some (.int x2), some (.int x3), none]) (st' := [.int x1, .ref 73]) rfl ?_
      refine Ev.rd (i := x1) (n := 8) (pc' := 76) (L' := [some (.ref 59), some (.int x1), some (.int x2), some (.int x3), none]) (st' := [.int ((M 73) (x1 : Int32).toNatClampNeg)]) H.1 rfl ?_
      replace H := H.2
      refine Ev.steps 1 (pc' := 99) (L' := [some (.ref 59), some (.int x1), some (.int x2), some (.int x3), none]) (st' := [.int ((M 73) (x1 : Int32).toNatClampNeg)]) rfl ?_
      exact Ev.weak [some (.ref 59), some (.int x1), some (.int x2), some (.int x3), none] (gw_leb_le ⟨rfl, rfl, rfl, rfl, trivial⟩) H
    · replace H := H.2 hc
      refine Ev.steps 3 (pc' := if x2 = 1 then 84 else 93) (L' := [some (.ref 59), some (.int x1), some (.int x2), some (.int x3), none]) (st' := []) rfl ?_
      refine Ev_ite (fun hc => ?_) (fun hc => ?_)
      · replace H := H.1 hc
        refine Ev.steps 3 (pc' := 89) (L' := [some (.ref 59), some (.int x1), some (.int x2), some (.int x3), none]) (st' := [.int x1, .ref 74]) rfl ?_
        refine Ev.rd (i := x1) (n := 8) (pc' := 90) (L' := [some (.ref 59), some (.int x1), some (.int x2), some (.int x3), none]) (st' := [.int ((M 74) (x1 : Int32).toNatClampNeg)]) H.1 rfl ?_
        replace H := H.2
        refine Ev.steps 1 (pc' := 99) (L' := [some (.ref 59), some (.int x1), some (.int x2), some (.int x3), none]) (st' := [.int ((M 74) (x1 : Int32).toNatClampNeg)]) rfl ?_
        exact Ev.weak [some (.ref 59), some (.int x1), some (.int x2), some (.int x3), none] (gw_leb_le ⟨rfl, rfl, rfl, rfl, trivial⟩) H
      · replace H := H.2 hc
        refine Ev.steps 3 (pc' := 98) (L' := [some (.ref 59), some (.int x1), some (.int x2), some (.int x3), none]) (st' := [.int x1, .ref 75]) rfl ?_
        refine Ev.rd (i := x1) (n := 8) (pc' := 99) (L' := [some (.ref 59), some (.int x1), some (.int x2), some (.int x3), none]) (st' := [.int ((M 75) (x1 : Int32).toNatClampNeg)]) H.1 rfl ?_
        replace H := H.2
        exact Ev.weak [some (.ref 59), some (.int x1), some (.int x2), some (.int x3), none] (gw_leb_le ⟨rfl, rfl, rfl, rfl, trivial⟩) H

set_option maxRecDepth 20000 in
theorem w262_99 {E : gw_N} {M : Mem} {res : Option Value × gw_H} {x1 : Int32} {x2 : Int32} {x3 : Int32} {y0 : Int32} (H : ((x2 = 0 → Ev 3 262 120 [some (.ref 59), some (.int x1), some (.int x2), some (.int x3), some (.int y0)] [.int x3, .int x1, .ref 73] (hs E M) res) ∧ (¬ x2 = 0 → (inb x1 8 ∧ Ev 3 262 120 [some (.ref 59), some (.int x1), some (.int x2), some (.int x3), some (.int y0)] [.int ((M 73) (x1 : Int32).toNatClampNeg), .int x1, .ref 73] (hs E M) res)))) : Ev 3 262 99 [some (.ref 59), some (.int x1), some (.int x2), some (.int x3), none] [.int y0] (hs E M) res := by
  refine Ev.steps 6 (pc' := if x2 = 0 then 110 else 114) (L' := [some (.ref 59), some (.int x1), some (.int x2), some (.int x3), some (.int y0)]) (st' := [.int x1, .ref 73]) rfl ?_
  refine Ev_ite (fun hc => ?_) (fun hc => ?_)
  · replace H := H.1 hc
    refine Ev.steps 2 (pc' := 120) (L' := [some (.ref 59), some (.int x1), some (.int x2), some (.int x3), some (.int y0)]) (st' := [.int x3, .int x1, .ref 73]) rfl ?_
    exact Ev.weak [some (.ref 59), some (.int x1), some (.int x2), some (.int x3), some (.int y0)] (gw_leb_le ⟨rfl, rfl, rfl, rfl, rfl, trivial⟩) H
  · replace H := H.2 hc
    refine Ev.steps 3 (pc' := 119) (L' := [some (.ref 59), some (.int x1), some (.int x2), some (.int x3), some (.int y0)]) (st' := [.int x1, .ref 73, .int x1, .ref 73]) rfl ?_
    refine Ev.rd (i := x1) (n := 8) (pc' := 120) (L' := [some (.ref 59), some (.int x1), some (.int x2), some (.int x3), some (.int y0)]) (st' := [.int ((M 73) (x1 : Int32).toNatClampNeg), .int x1, .ref 73]) H.1 rfl ?_
    replace H := H.2
    exact Ev.weak [some (.ref 59), some (.int x1), some (.int x2), some (.int x3), some (.int y0)] (gw_leb_le ⟨rfl, rfl, rfl, rfl, rfl, trivial⟩) H

set_option maxRecDepth 20000 in
theorem w262_120 {E : gw_N} {M : Mem} {res : Option Value × gw_H} {x1 : Int32} {x2 : Int32} {x3 : Int32} {x4 : Int32} {y1 : Int32} {y2 : Int32} (H : (inb y1 8 ∧ ((x2 = 1 → Ev 3 262 141 [some (.ref 59), some (.int x1), some (.int x2), some (.int x3), some (.int x4)] [.int x3, .int x1, .ref 74] (hs E (up M 73 (upd (M 73) (y1 : Int32).toNatClampNeg y2))) res) ∧ (¬ x2 = 1 → (inb x1 8 ∧ Ev 3 262 141 [some (.ref 59), some (.int x1), some (.int x2), some (.int x3), some (.int x4)] [.int ((M 74) (x1 : Int32).toNatClampNeg), .int x1, .ref 74] (hs E (up M 73 (upd (M 73) (y1 : Int32).toNatClampNeg y2))) res))))) : Ev 3 262 120 [some (.ref 59), some (.int x1), some (.int x2), some (.int x3), some (.int x4)] [.int y2, .int y1, .ref 73] (hs E M) res := by
  refine Ev.wr (a := 73) (g := (upd (M 73) (y1 : Int32).toNatClampNeg y2)) (i := y1) (n := 8) (pc' := 121) (L' := [some (.ref 59), some (.int x1), some (.int x2), some (.int x3), some (.int x4)]) (st' := []) (by decide) H.1 rfl ?_
  replace H := H.2
  refine Ev.steps 6 (pc' := if x2 = 1 then 131 else 135) (L' := [some (.ref 59), some (.int x1), some (.int x2), some (.int x3), some (.int x4)]) (st' := [.int x1, .ref 74]) rfl ?_
  refine Ev_ite (fun hc => ?_) (fun hc => ?_)
  · replace H := H.1 hc
    refine Ev.steps 2 (pc' := 141) (L' := [some (.ref 59), some (.int x1), some (.int x2), some (.int x3), some (.int x4)]) (st' := [.int x3, .int x1, .ref 74]) rfl ?_
    exact Ev.weak [some (.ref 59), some (.int x1), some (.int x2), some (.int x3), some (.int x4)] (gw_leb_le ⟨rfl, rfl, rfl, rfl, rfl, trivial⟩) H
  · replace H := H.2 hc
    refine Ev.steps 3 (pc' := 140) (L' := [some (.ref 59), some (.int x1), some (.int x2), some (.int x3), some (.int x4)]) (st' := [.int x1, .ref 74, .int x1, .ref 74]) rfl ?_
    refine Ev.rd (i := x1) (n := 8) (pc' := 141) (L' := [some (.ref 59), some (.int x1), some (.int x2), some (.int x3), some (.int x4)]) (st' := [.int ((M 74) (x1 : Int32).toNatClampNeg), .int x1, .ref 74]) H.1 rfl ?_
    replace H := H.2
    exact Ev.weak [some (.ref 59), some (.int x1), some (.int x2), some (.int x3), some (.int x4)] (gw_leb_le ⟨rfl, rfl, rfl, rfl, rfl, trivial⟩) H

set_option maxRecDepth 20000 in
theorem w262_141 {E : gw_N} {M : Mem} {res : Option Value × gw_H} {x1 : Int32} {x2 : Int32} {x3 : Int32} {x4 : Int32} {y1 : Int32} {y2 : Int32} (H : (inb y1 8 ∧ ((x2 = 2 → Ev 3 262 162 [none, none, none, none, some (.int x4)] [.int x3, .int x1, .ref 75] (hs E (up M 74 (upd (M 74) (y1 : Int32).toNatClampNeg y2))) res) ∧ (¬ x2 = 2 → (inb x1 8 ∧ Ev 3 262 162 [none, none, none, none, some (.int x4)] [.int ((M 75) (x1 : Int32).toNatClampNeg), .int x1, .ref 75] (hs E (up M 74 (upd (M 74) (y1 : Int32).toNatClampNeg y2))) res))))) : Ev 3 262 141 [some (.ref 59), some (.int x1), some (.int x2), some (.int x3), some (.int x4)] [.int y2, .int y1, .ref 74] (hs E M) res := by
  refine Ev.wr (a := 74) (g := (upd (M 74) (y1 : Int32).toNatClampNeg y2)) (i := y1) (n := 8) (pc' := 142) (L' := [some (.ref 59), some (.int x1), some (.int x2), some (.int x3), some (.int x4)]) (st' := []) (by decide) H.1 rfl ?_
  replace H := H.2
  refine Ev.steps 6 (pc' := if x2 = 2 then 152 else 156) (L' := [some (.ref 59), some (.int x1), some (.int x2), some (.int x3), some (.int x4)]) (st' := [.int x1, .ref 75]) rfl ?_
  refine Ev_ite (fun hc => ?_) (fun hc => ?_)
  · replace H := H.1 hc
    refine Ev.steps 2 (pc' := 162) (L' := [some (.ref 59), some (.int x1), some (.int x2), some (.int x3), some (.int x4)]) (st' := [.int x3, .int x1, .ref 75]) rfl ?_
    exact Ev.weak [none, none, none, none, some (.int x4)] (gw_leb_le ⟨rfl, trivial⟩) H
  · replace H := H.2 hc
    refine Ev.steps 3 (pc' := 161) (L' := [some (.ref 59), some (.int x1), some (.int x2), some (.int x3), some (.int x4)]) (st' := [.int x1, .ref 75, .int x1, .ref 75]) rfl ?_
    refine Ev.rd (i := x1) (n := 8) (pc' := 162) (L' := [some (.ref 59), some (.int x1), some (.int x2), some (.int x3), some (.int x4)]) (st' := [.int ((M 75) (x1 : Int32).toNatClampNeg), .int x1, .ref 75]) H.1 rfl ?_
    replace H := H.2
    exact Ev.weak [none, none, none, none, some (.int x4)] (gw_leb_le ⟨rfl, trivial⟩) H

set_option maxRecDepth 20000 in
theorem w262_162 {E : gw_N} {M : Mem} {res : Option Value × gw_H} {x4 : Int32} {y1 : Int32} {y2 : Int32} (H : (inb y1 8 ∧ res = (some (.int x4), hs E (up M 75 (upd (M 75) (y1 : Int32).toNatClampNeg y2))))) : Ev 3 262 162 [none, none, none, none, some (.int x4)] [.int y2, .int y1, .ref 75] (hs E M) res := by
  refine Ev.wr (a := 75) (g := (upd (M 75) (y1 : Int32).toNatClampNeg y2)) (i := y1) (n := 8) (pc' := 163) (L' := [none, none, none, none, some (.int x4)]) (st' := []) (by decide) H.1 rfl ?_
  replace H := H.2
  refine Ev.steps 1 (pc' := 165) (L' := [none, none, none, none, some (.int x4)]) (st' := [.int x4]) rfl ?_
  subst H
  exact Ev.ret rfl

-- 263 GlassWiresModel foes (IIZ)I
set_option maxRecDepth 20000 in
theorem w263_0 {E : gw_N} {M : Mem} {res : Option Value × gw_H} {x1 : Int32} {x2 : Int32} {x3 : Int32} (H : (((F261 M x1) = 0 → res = (some (.int (-101)), hs E M)) ∧ (¬ (F261 M x1) = 0 → (((F261 M x2) = 0 → res = (some (.int (-101)), hs E M)) ∧ (¬ (F261 M x2) = 0 → ((x1 = x2 → res = (some (.int (-102)), hs E M)) ∧ (¬ x1 = x2 → (inb ((8 * x1) + x2) 64 ∧ ((((M 76) (((8 * x1) + x2) : Int32).toNatClampNeg) = 0 → (inb ((8 * x1) + x2) 64 ∧ (inb ((8 * x2) + x1) 64 ∧ res = (some (.int 0), hs E (up M 76 (upd (upd (M 76) (((8 * x1) + x2) : Int32).toNatClampNeg (x3 &&& 1)) (((8 * x2) + x1) : Int32).toNatClampNeg (x3 &&& 1))))))) ∧ (¬ ((M 76) (((8 * x1) + x2) : Int32).toNatClampNeg) = 0 → (inb ((8 * x1) + x2) 64 ∧ (inb ((8 * x2) + x1) 64 ∧ res = (some (.int 1), hs E (up M 76 (upd (upd (M 76) (((8 * x1) + x2) : Int32).toNatClampNeg (x3 &&& 1)) (((8 * x2) + x1) : Int32).toNatClampNeg (x3 &&& 1)))))))))))))))) : Ev 3 263 0 [some (.ref 59), some (.int x1), some (.int x2), some (.int x3), none] [] (hs E M) res := by
  refine Ev.steps 1 (pc' := 1) (L' := [some (.ref 59), some (.int x1), some (.int x2), some (.int x3), none]) (st' := [.int x1]) rfl ?_
  refine Ev.call (y := 261) (args := [.int x1]) (rest := []) (r := some (.int (F261 M x1))) rfl (s261) ?_
  show Ev 3 263 4 [some (.ref 59), some (.int x1), some (.int x2), some (.int x3), none] [.int (F261 M x1)] _ _
  refine Ev.steps 1 (pc' := if (F261 M x1) = 0 then 14 else 7) (L' := [some (.ref 59), some (.int x1), some (.int x2), some (.int x3), none]) (st' := []) rfl ?_
  refine Ev_ite (fun hc => ?_) (fun hc => ?_)
  · replace H := H.1 hc
    refine Ev.steps 1 (pc' := 16) (L' := [some (.ref 59), some (.int x1), some (.int x2), some (.int x3), none]) (st' := [.int (-101)]) rfl ?_
    subst H
    exact Ev.ret rfl
  · replace H := H.2 hc
    refine Ev.steps 1 (pc' := 8) (L' := [some (.ref 59), some (.int x1), some (.int x2), some (.int x3), none]) (st' := [.int x2]) rfl ?_
    refine Ev.call (y := 261) (args := [.int x2]) (rest := []) (r := some (.int (F261 M x2))) rfl (s261) ?_
    show Ev 3 263 11 [some (.ref 59), some (.int x1), some (.int x2), some (.int x3), none] [.int (F261 M x2)] _ _
    refine Ev.steps 1 (pc' := if (F261 M x2) = 0 then 14 else 17) (L' := [some (.ref 59), some (.int x1), some (.int x2), some (.int x3), none]) (st' := []) rfl ?_
    refine Ev_ite (fun hc => ?_) (fun hc => ?_)
    · replace H := H.1 hc
      refine Ev.steps 1 (pc' := 16) (L' := [some (.ref 59), some (.int x1), some (.int x2), some (.int x3), none]) (st' := [.int (-101)]) rfl ?_
      subst H
      exact Ev.ret rfl
    · replace H := H.2 hc
      refine Ev.steps 3 (pc' := if x1 = x2 then 22 else 25) (L' := [some (.ref 59), some (.int x1), some (.int x2), some (.int x3), none]) (st' := []) rfl ?_
      refine Ev_ite (fun hc => ?_) (fun hc => ?_)
      · replace H := H.1 hc
        refine Ev.steps 1 (pc' := 24) (L' := [some (.ref 59), some (.int x1), some (.int x2), some (.int x3), none]) (st' := [.int (-102)]) rfl ?_
        subst H
        exact Ev.ret rfl
      · replace H := H.2 hc
        refine Ev.steps 7 (pc' := 35) (L' := [some (.ref 59), some (.int x1), some (.int x2), some (.int x3), none]) (st' := [.int ((8 * x1) + x2), .ref 76]) rfl ?_
        refine Ev.rd (i := ((8 * x1) + x2)) (n := 64) (pc' := 36) (L' := [some (.ref 59), some (.int x1), some (.int x2), some (.int x3), none]) (st' := [.int ((M 76) (((8 * x1) + x2) : Int32).toNatClampNeg)]) H.1 rfl ?_
        replace H := H.2
        refine Ev.steps 1 (pc' := if ((M 76) (((8 * x1) + x2) : Int32).toNatClampNeg) = 0 then 43 else 39) (L' := [some (.ref 59), some (.int x1), some (.int x2), some (.int x3), none]) (st' := []) rfl ?_
        refine Ev_ite (fun hc => ?_) (fun hc => ?_)
        · replace H := H.1 hc
          refine Ev.steps 10 (pc' := 57) (L' := [some (.ref 59), some (.int x1), some (.int x2), some (.int x3), some (.int 0)]) (st' := [.int x3, .int ((8 * x1) + x2), .ref 76]) rfl ?_
          refine Ev.wr (a := 76) (g := (upd (M 76) (((8 * x1) + x2) : Int32).toNatClampNeg (x3 &&& 1))) (i := ((8 * x1) + x2)) (n := 64) (pc' := 58) (L' := [some (.ref 59), some (.int x1), some (.int x2), some (.int x3), some (.int 0)]) (st' := []) (by decide) H.1 rfl ?_
          replace H := H.2
          refine Ev.steps 8 (pc' := 69) (L' := [some (.ref 59), some (.int x1), some (.int x2), some (.int x3), some (.int 0)]) (st' := [.int x3, .int ((8 * x2) + x1), .ref 76]) rfl ?_
          refine Ev.wr (a := 76) (g := (upd (upd (M 76) (((8 * x1) + x2) : Int32).toNatClampNeg (x3 &&& 1)) (((8 * x2) + x1) : Int32).toNatClampNeg (x3 &&& 1))) (i := ((8 * x2) + x1)) (n := 64) (pc' := 70) (L' := [some (.ref 59), some (.int x1), some (.int x2), some (.int x3), some (.int 0)]) (st' := []) (by decide) H.1 rfl ?_
          replace H := H.2
          refine Ev.mto (M' := (up M 76 (upd (upd (M 76) (((8 * x1) + x2) : Int32).toNatClampNeg (x3 &&& 1)) (((8 * x2) + x1) : Int32).toNatClampNeg (x3 &&& 1)))) (by funext q9; unfold up; by_cases e9 : q9 = 76 <;> simp [e9]) ?_
          refine Ev.steps 1 (pc' := 72) (L' := [some (.ref 59), some (.int x1), some (.int x2), some (.int x3), some (.int 0)]) (st' := [.int 0]) rfl ?_
          subst H
          exact Ev.ret rfl
        · replace H := H.2 hc
          refine Ev.steps 11 (pc' := 57) (L' := [some (.ref 59), some (.int x1), some (.int x2), some (.int x3), some (.int 1)]) (st' := [.int x3, .int ((8 * x1) + x2), .ref 76]) rfl ?_
          refine Ev.wr (a := 76) (g := (upd (M 76) (((8 * x1) + x2) : Int32).toNatClampNeg (x3 &&& 1))) (i := ((8 * x1) + x2)) (n := 64) (pc' := 58) (L' := [some (.ref 59), some (.int x1), some (.int x2), some (.int x3), some (.int 1)]) (st' := []) (by decide) H.1 rfl ?_
          replace H := H.2
          refine Ev.steps 8 (pc' := 69) (L' := [some (.ref 59), some (.int x1), some (.int x2), some (.int x3), some (.int 1)]) (st' := [.int x3, .int ((8 * x2) + x1), .ref 76]) rfl ?_
          refine Ev.wr (a := 76) (g := (upd (upd (M 76) (((8 * x1) + x2) : Int32).toNatClampNeg (x3 &&& 1)) (((8 * x2) + x1) : Int32).toNatClampNeg (x3 &&& 1))) (i := ((8 * x2) + x1)) (n := 64) (pc' := 70) (L' := [some (.ref 59), some (.int x1), some (.int x2), some (.int x3), some (.int 1)]) (st' := []) (by decide) H.1 rfl ?_
          replace H := H.2
          refine Ev.mto (M' := (up M 76 (upd (upd (M 76) (((8 * x1) + x2) : Int32).toNatClampNeg (x3 &&& 1)) (((8 * x2) + x1) : Int32).toNatClampNeg (x3 &&& 1)))) (by funext q9; unfold up; by_cases e9 : q9 = 76 <;> simp [e9]) ?_
          refine Ev.steps 1 (pc' := 72) (L' := [some (.ref 59), some (.int x1), some (.int x2), some (.int x3), some (.int 1)]) (st' := [.int 1]) rfl ?_
          subst H
          exact Ev.ret rfl

-- 268 GlassWiresModel field (III)I
set_option maxRecDepth 20000 in
theorem w268_0 {E : gw_N} {M : Mem} {res : Option Value × gw_H} {x1 : Int32} {x2 : Int32} {x3 : Int32} (H : (((F244 M x1 x2) = 0 → res = (some (.int (-101)), hs E M)) ∧ (¬ (F244 M x1 x2) = 0 → ((x3 = 0 → (∃ (r1 : Int32), Rn 267 [.ref 59, .int ((((M 59) 0) * x2) + x1)] (hs E M) (some (.int r1)) (hs E M) ∧ res = (some (.int r1), hs E M))) ∧ (¬ x3 = 0 → ((x3 = 1 → (inb ((((M 59) 0) * x2) + x1) 64 ∧ res = (some (.int ((M 77) (((((M 59) 0) * x2) + x1) : Int32).toNatClampNeg)), hs E M))) ∧ (¬ x3 = 1 → res = (some (.int (-102)), hs E M)))))))) : Ev 3 268 0 [some (.ref 59), some (.int x1), some (.int x2), some (.int x3), none] [] (hs E M) res := by
  refine Ev.steps 3 (pc' := 3) (L' := [some (.ref 59), some (.int x1), some (.int x2), some (.int x3), none]) (st' := [.int x2, .int x1, .ref 59]) rfl ?_
  refine Ev.call (y := 244) (args := [.ref 59, .int x1, .int x2]) (rest := []) (r := some (.int (F244 M x1 x2))) rfl (s244) ?_
  show Ev 3 268 6 [some (.ref 59), some (.int x1), some (.int x2), some (.int x3), none] [.int (F244 M x1 x2)] _ _
  refine Ev.steps 1 (pc' := if (F244 M x1 x2) = 0 then 9 else 12) (L' := [some (.ref 59), some (.int x1), some (.int x2), some (.int x3), none]) (st' := []) rfl ?_
  refine Ev_ite (fun hc => ?_) (fun hc => ?_)
  · replace H := H.1 hc
    refine Ev.steps 1 (pc' := 11) (L' := [some (.ref 59), some (.int x1), some (.int x2), some (.int x3), none]) (st' := [.int (-101)]) rfl ?_
    subst H
    exact Ev.ret rfl
  · replace H := H.2 hc
    refine Ev.steps 9 (pc' := if x3 = 0 then 26 else 35) (L' := [some (.ref 59), some (.int x1), some (.int x2), some (.int x3), some (.int ((((M 59) 0) * x2) + x1))]) (st' := []) rfl ?_
    refine Ev_ite (fun hc => ?_) (fun hc => ?_)
    · replace H := H.1 hc
      refine Ev.steps 2 (pc' := 29) (L' := [some (.ref 59), some (.int x1), some (.int x2), some (.int x3), some (.int ((((M 59) 0) * x2) + x1))]) (st' := [.int ((((M 59) 0) * x2) + x1), .ref 59]) rfl ?_
      obtain ⟨r1, hr1, H⟩ := H
      refine Ev.call (y := 267) (args := [.ref 59, .int ((((M 59) 0) * x2) + x1)]) (rest := []) (r := (some (.int r1))) rfl hr1 ?_
      show Ev 3 268 32 [some (.ref 59), some (.int x1), some (.int x2), some (.int x3), some (.int ((((M 59) 0) * x2) + x1))] [.int r1] _ _
      refine Ev.steps 1 (pc' := 52) (L' := [some (.ref 59), some (.int x1), some (.int x2), some (.int x3), some (.int ((((M 59) 0) * x2) + x1))]) (st' := [.int r1]) rfl ?_
      subst H
      exact Ev.ret rfl
    · replace H := H.2 hc
      refine Ev.steps 3 (pc' := if x3 = 1 then 40 else 50) (L' := [some (.ref 59), some (.int x1), some (.int x2), some (.int x3), some (.int ((((M 59) 0) * x2) + x1))]) (st' := []) rfl ?_
      refine Ev_ite (fun hc => ?_) (fun hc => ?_)
      · replace H := H.1 hc
        refine Ev.steps 3 (pc' := 46) (L' := [some (.ref 59), some (.int x1), some (.int x2), some (.int x3), some (.int ((((M 59) 0) * x2) + x1))]) (st' := [.int ((((M 59) 0) * x2) + x1), .ref 77]) rfl ?_
        refine Ev.rd (i := ((((M 59) 0) * x2) + x1)) (n := 64) (pc' := 47) (L' := [some (.ref 59), some (.int x1), some (.int x2), some (.int x3), some (.int ((((M 59) 0) * x2) + x1))]) (st' := [.int ((M 77) (((((M 59) 0) * x2) + x1) : Int32).toNatClampNeg)]) H.1 rfl ?_
        replace H := H.2
        refine Ev.steps 1 (pc' := 52) (L' := [some (.ref 59), some (.int x1), some (.int x2), some (.int x3), some (.int ((((M 59) 0) * x2) + x1))]) (st' := [.int ((M 77) (((((M 59) 0) * x2) + x1) : Int32).toNatClampNeg)]) rfl ?_
        subst H
        exact Ev.ret rfl
      · replace H := H.2 hc
        refine Ev.steps 1 (pc' := 52) (L' := [some (.ref 59), some (.int x1), some (.int x2), some (.int x3), some (.int ((((M 59) 0) * x2) + x1))]) (st' := [.int (-102)]) rfl ?_
        subst H
        exact Ev.ret rfl

-- 269 GlassWiresModel layer (IIII)I
set_option maxRecDepth 20000 in
theorem w269_0 {E : gw_N} {M : Mem} {res : Option Value × gw_H} {x1 : Int32} {x2 : Int32} {x3 : Int32} {x4 : Int32} (H : (((F244 M x1 x2) = 0 → res = (some (.int (-101)), hs E M)) ∧ (¬ (F244 M x1 x2) = 0 → (((F209 M (Int32.toInt64 x4) 0 2) = 0 → res = (some (.int (-102)), hs E M)) ∧ (¬ (F209 M (Int32.toInt64 x4) 0 2) = 0 → (inb ((((M 59) 0) * x2) + x1) 64 ∧ (((F209 M (Int32.toInt64 x3) 0 (Int32.toInt64 (((M 77) (((((M 59) 0) * x2) + x1) : Int32).toNatClampNeg) - 1))) = 0 → res = (some (.int (-1)), hs E M)) ∧ (¬ (F209 M (Int32.toInt64 x3) 0 (Int32.toInt64 (((M 77) (((((M 59) 0) * x2) + x1) : Int32).toNatClampNeg) - 1))) = 0 → ((x4 = 0 → (inb ((12 * ((((M 59) 0) * x2) + x1)) + x3) 768 ∧ res = (some (.int ((M 78) (((12 * ((((M 59) 0) * x2) + x1)) + x3) : Int32).toNatClampNeg)), hs E M))) ∧ (¬ x4 = 0 → ((x4 = 1 → (inb ((12 * ((((M 59) 0) * x2) + x1)) + x3) 768 ∧ res = (some (.int ((M 79) (((12 * ((((M 59) 0) * x2) + x1)) + x3) : Int32).toNatClampNeg)), hs E M))) ∧ (¬ x4 = 1 → (inb ((12 * ((((M 59) 0) * x2) + x1)) + x3) 768 ∧ res = (some (.int ((M 80) (((12 * ((((M 59) 0) * x2) + x1)) + x3) : Int32).toNatClampNeg)), hs E M)))))))))))))) : Ev 3 269 0 [some (.ref 59), some (.int x1), some (.int x2), some (.int x3), some (.int x4), none, none] [] (hs E M) res := by
  refine Ev.steps 3 (pc' := 3) (L' := [some (.ref 59), some (.int x1), some (.int x2), some (.int x3), some (.int x4), none, none]) (st' := [.int x2, .int x1, .ref 59]) rfl ?_
  refine Ev.call (y := 244) (args := [.ref 59, .int x1, .int x2]) (rest := []) (r := some (.int (F244 M x1 x2))) rfl (s244) ?_
  show Ev 3 269 6 [some (.ref 59), some (.int x1), some (.int x2), some (.int x3), some (.int x4), none, none] [.int (F244 M x1 x2)] _ _
  refine Ev.steps 1 (pc' := if (F244 M x1 x2) = 0 then 9 else 12) (L' := [some (.ref 59), some (.int x1), some (.int x2), some (.int x3), some (.int x4), none, none]) (st' := []) rfl ?_
  refine Ev_ite (fun hc => ?_) (fun hc => ?_)
  · replace H := H.1 hc
    refine Ev.steps 1 (pc' := 11) (L' := [some (.ref 59), some (.int x1), some (.int x2), some (.int x3), some (.int x4), none, none]) (st' := [.int (-101)]) rfl ?_
    subst H
    exact Ev.ret rfl
  · replace H := H.2 hc
    refine Ev.steps 4 (pc' := 19) (L' := [some (.ref 59), some (.int x1), some (.int x2), some (.int x3), some (.int x4), none, none]) (st' := [.long 2, .long 0, .long (Int32.toInt64 x4)]) rfl ?_
    refine Ev.call (y := 209) (args := [.long (Int32.toInt64 x4), .long 0, .long 2]) (rest := []) (r := some (.int (F209 M (Int32.toInt64 x4) 0 2))) rfl (s209) ?_
    show Ev 3 269 22 [some (.ref 59), some (.int x1), some (.int x2), some (.int x3), some (.int x4), none, none] [.int (F209 M (Int32.toInt64 x4) 0 2)] _ _
    refine Ev.steps 1 (pc' := if (F209 M (Int32.toInt64 x4) 0 2) = 0 then 25 else 28) (L' := [some (.ref 59), some (.int x1), some (.int x2), some (.int x3), some (.int x4), none, none]) (st' := []) rfl ?_
    refine Ev_ite (fun hc => ?_) (fun hc => ?_)
    · replace H := H.1 hc
      refine Ev.steps 1 (pc' := 27) (L' := [some (.ref 59), some (.int x1), some (.int x2), some (.int x3), some (.int x4), none, none]) (st' := [.int (-102)]) rfl ?_
      subst H
      exact Ev.ret rfl
    · replace H := H.2 hc
      refine Ev.steps 13 (pc' := 47) (L' := [some (.ref 59), some (.int x1), some (.int x2), some (.int x3), some (.int x4), some (.int ((((M 59) 0) * x2) + x1)), none]) (st' := [.int ((((M 59) 0) * x2) + x1), .ref 77, .long 0, .long (Int32.toInt64 x3)]) rfl ?_
      refine Ev.rd (i := ((((M 59) 0) * x2) + x1)) (n := 64) (pc' := 48) (L' := [some (.ref 59), some (.int x1), some (.int x2), some (.int x3), some (.int x4), some (.int ((((M 59) 0) * x2) + x1)), none]) (st' := [.int ((M 77) (((((M 59) 0) * x2) + x1) : Int32).toNatClampNeg), .long 0, .long (Int32.toInt64 x3)]) H.1 rfl ?_
      replace H := H.2
      refine Ev.steps 3 (pc' := 51) (L' := [some (.ref 59), some (.int x1), some (.int x2), some (.int x3), some (.int x4), some (.int ((((M 59) 0) * x2) + x1)), none]) (st' := [.long (Int32.toInt64 (((M 77) (((((M 59) 0) * x2) + x1) : Int32).toNatClampNeg) - 1)), .long 0, .long (Int32.toInt64 x3)]) rfl ?_
      refine Ev.call (y := 209) (args := [.long (Int32.toInt64 x3), .long 0, .long (Int32.toInt64 (((M 77) (((((M 59) 0) * x2) + x1) : Int32).toNatClampNeg) - 1))]) (rest := []) (r := some (.int (F209 M (Int32.toInt64 x3) 0 (Int32.toInt64 (((M 77) (((((M 59) 0) * x2) + x1) : Int32).toNatClampNeg) - 1))))) rfl (s209) ?_
      show Ev 3 269 54 [some (.ref 59), some (.int x1), some (.int x2), some (.int x3), some (.int x4), some (.int ((((M 59) 0) * x2) + x1)), none] [.int (F209 M (Int32.toInt64 x3) 0 (Int32.toInt64 (((M 77) (((((M 59) 0) * x2) + x1) : Int32).toNatClampNeg) - 1)))] _ _
      refine Ev.steps 1 (pc' := if (F209 M (Int32.toInt64 x3) 0 (Int32.toInt64 (((M 77) (((((M 59) 0) * x2) + x1) : Int32).toNatClampNeg) - 1))) = 0 then 57 else 59) (L' := [some (.ref 59), some (.int x1), some (.int x2), some (.int x3), some (.int x4), some (.int ((((M 59) 0) * x2) + x1)), none]) (st' := []) rfl ?_
      refine Ev_ite (fun hc => ?_) (fun hc => ?_)
      · replace H := H.1 hc
        refine Ev.steps 1 (pc' := 58) (L' := [some (.ref 59), some (.int x1), some (.int x2), some (.int x3), some (.int x4), some (.int ((((M 59) 0) * x2) + x1)), none]) (st' := [.int (-1)]) rfl ?_
        subst H
        exact Ev.ret rfl
      · replace H := H.2 hc
        refine Ev.steps 8 (pc' := if x4 = 0 then 73 else 83) (L' := [some (.ref 59), some (.int x1), some (.int x2), some (.int x3), some (.int x4), some (.int ((((M 59) 0) * x2) + x1)), some (.int ((12 * ((((M 59) 0) * x2) + x1)) + x3))]) (st' := []) rfl ?_
        refine Ev_ite (fun hc => ?_) (fun hc => ?_)
        · replace H := H.1 hc
          refine Ev.steps 3 (pc' := 79) (L' := [some (.ref 59), some (.int x1), some (.int x2), some (.int x3), some (.int x4), some (.int ((((M 59) 0) * x2) + x1)), some (.int ((12 * ((((M 59) 0) * x2) + x1)) + x3))]) (st' := [.int ((12 * ((((M 59) 0) * x2) + x1)) + x3), .ref 78]) rfl ?_
          refine Ev.rd (i := ((12 * ((((M 59) 0) * x2) + x1)) + x3)) (n := 768) (pc' := 80) (L' := [some (.ref 59), some (.int x1), some (.int x2), some (.int x3), some (.int x4), some (.int ((((M 59) 0) * x2) + x1)), some (.int ((12 * ((((M 59) 0) * x2) + x1)) + x3))]) (st' := [.int ((M 78) (((12 * ((((M 59) 0) * x2) + x1)) + x3) : Int32).toNatClampNeg)]) H.1 rfl ?_
          replace H := H.2
          refine Ev.steps 1 (pc' := 106) (L' := [some (.ref 59), some (.int x1), some (.int x2), some (.int x3), some (.int x4), some (.int ((((M 59) 0) * x2) + x1)), some (.int ((12 * ((((M 59) 0) * x2) + x1)) + x3))]) (st' := [.int ((M 78) (((12 * ((((M 59) 0) * x2) + x1)) + x3) : Int32).toNatClampNeg)]) rfl ?_
          subst H
          exact Ev.ret rfl
        · replace H := H.2 hc
          refine Ev.steps 3 (pc' := if x4 = 1 then 89 else 99) (L' := [some (.ref 59), some (.int x1), some (.int x2), some (.int x3), some (.int x4), some (.int ((((M 59) 0) * x2) + x1)), some (.int ((12 * ((((M 59) 0) * x2) + x1)) + x3))]) (st' := []) rfl ?_
          refine Ev_ite (fun hc => ?_) (fun hc => ?_)
          · replace H := H.1 hc
            refine Ev.steps 3 (pc' := 95) (L' := [some (.ref 59), some (.int x1), some (.int x2), some (.int x3), some (.int x4), some (.int ((((M 59) 0) * x2) + x1)), some (.int ((12 * ((((M 59) 0) * x2) + x1)) + x3))]) (st' := [.int ((12 * ((((M 59) 0) * x2) + x1)) + x3), .ref 79]) rfl ?_
            refine Ev.rd (i := ((12 * ((((M 59) 0) * x2) + x1)) + x3)) (n := 768) (pc' := 96) (L' := [some (.ref 59), some (.int x1), some (.int x2), some (.int x3), some (.int x4), some (.int ((((M 59) 0) * x2) + x1)), some (.int ((12 * ((((M 59) 0) * x2) + x1)) + x3))]) (st' := [.int ((M 79) (((12 * ((((M 59) 0) * x2) + x1)) + x3) : Int32).toNatClampNeg)]) H.1 rfl ?_
            replace H := H.2
            refine Ev.steps 1 (pc' := 106) (L' := [some (.ref 59), some (.int x1), some (.int x2), some (.int x3), some (.int x4), some (.int ((((M 59) 0) * x2) + x1)), some (.int ((12 * ((((M 59) 0) * x2) + x1)) + x3))]) (st' := [.int ((M 79) (((12 * ((((M 59) 0) * x2) + x1)) + x3) : Int32).toNatClampNeg)]) rfl ?_
            subst H
            exact Ev.ret rfl
          · replace H := H.2 hc
            refine Ev.steps 3 (pc' := 105) (L' := [some (.ref 59), some (.int x1), some (.int x2), some (.int x3), some (.int x4), some (.int ((((M 59) 0) * x2) + x1)), some (.int ((12 * ((((M 59) 0) * x2) + x1)) + x3))]) (st' := [.int ((12 * ((((M 59) 0) * x2) + x1)) + x3), .ref 80]) rfl ?_
            refine Ev.rd (i := ((12 * ((((M 59) 0) * x2) + x1)) + x3)) (n := 768) (pc' := 106) (L' := [some (.ref 59), some (.int x1), some (.int x2), some (.int x3), some (.int x4), some (.int ((((M 59) 0) * x2) + x1)), some (.int ((12 * ((((M 59) 0) * x2) + x1)) + x3))]) (st' := [.int ((M 80) (((12 * ((((M 59) 0) * x2) + x1)) + x3) : Int32).toNatClampNeg)]) H.1 rfl ?_
            replace H := H.2
            subst H
            exact Ev.ret rfl

def F269 (M : Mem) (x1 : Int32) (x2 : Int32) (x3 : Int32) (x4 : Int32) : Int32 := (if (F244 M x1 x2) = 0 then (-101) else (if (F209 M (Int32.toInt64 x4) 0 2) = 0 then (-102) else (if (F209 M (Int32.toInt64 x3) 0 (Int32.toInt64 (((M 77) (((((M 59) 0) * x2) + x1) : Int32).toNatClampNeg) - 1))) = 0 then (-1) else (if x4 = 0 then ((M 78) (((12 * ((((M 59) 0) * x2) + x1)) + x3) : Int32).toNatClampNeg) else (if x4 = 1 then ((M 79) (((12 * ((((M 59) 0) * x2) + x1)) + x3) : Int32).toNatClampNeg) else ((M 80) (((12 * ((((M 59) 0) * x2) + x1)) + x3) : Int32).toNatClampNeg))))))
def P269 (M : Mem) (x1 : Int32) (x2 : Int32) (x3 : Int32) (x4 : Int32) : Prop := (((F244 M x1 x2) = 0 → True) ∧ (¬ (F244 M x1 x2) = 0 → (((F209 M (Int32.toInt64 x4) 0 2) = 0 → True) ∧ (¬ (F209 M (Int32.toInt64 x4) 0 2) = 0 → (inb ((((M 59) 0) * x2) + x1) 64 ∧ (((F209 M (Int32.toInt64 x3) 0 (Int32.toInt64 (((M 77) (((((M 59) 0) * x2) + x1) : Int32).toNatClampNeg) - 1))) = 0 → True) ∧ (¬ (F209 M (Int32.toInt64 x3) 0 (Int32.toInt64 (((M 77) (((((M 59) 0) * x2) + x1) : Int32).toNatClampNeg) - 1))) = 0 → ((x4 = 0 → (inb ((12 * ((((M 59) 0) * x2) + x1)) + x3) 768)) ∧ (¬ x4 = 0 → ((x4 = 1 → (inb ((12 * ((((M 59) 0) * x2) + x1)) + x3) 768)) ∧ (¬ x4 = 1 → (inb ((12 * ((((M 59) 0) * x2) + x1)) + x3) 768))))))))))))
theorem s269 {E : gw_N} {M : Mem} {x1 : Int32} {x2 : Int32} {x3 : Int32} {x4 : Int32} (H : P269 M x1 x2 x3 x4) : Rn 269 [.ref 59, .int x1, .int x2, .int x3, .int x4] (hs E M) (some (.int (F269 M x1 x2 x3 x4))) (hs E M) :=
  w269_0 (⟨fun h0 => gw_reteq (if_pos h0), fun h0 => ⟨fun h1 => gw_reteq ((if_neg h0).trans (if_pos h1)), fun h1 => ⟨((H.2 h0).2 h1).1, ⟨fun h2 => gw_reteq (((if_neg h0).trans (if_neg h1)).trans (if_pos h2)), fun h2 => ⟨fun h3 => ⟨((((H.2 h0).2 h1).2.2 h2).1 h3), gw_reteq ((((if_neg h0).trans (if_neg h1)).trans (if_neg h2)).trans (if_pos h3))⟩, fun h3 => ⟨fun h4 => ⟨(((((H.2 h0).2 h1).2.2 h2).2 h3).1 h4), gw_reteq (((((if_neg h0).trans (if_neg h1)).trans (if_neg h2)).trans (if_neg h3)).trans (if_pos h4))⟩, fun h4 => ⟨(((((H.2 h0).2 h1).2.2 h2).2 h3).2 h4), gw_reteq (((((if_neg h0).trans (if_neg h1)).trans (if_neg h2)).trans (if_neg h3)).trans (if_neg h4))⟩⟩⟩⟩⟩⟩⟩)
-- 275 GlassWiresModel solders (I)Z
set_option maxRecDepth 20000 in
theorem w275_0 {E : gw_N} {M : Mem} {res : Option Value × gw_H} {x1 : Int32} (H : Ev 3 275 4 [some (.ref 59), some (.int x1), some (.int 0), some (.int 0)] [] (hs E M) res) : Ev 3 275 0 [some (.ref 59), some (.int x1), none, none] [] (hs E M) res := by
  refine Ev.steps 4 (pc' := 4) (L' := [some (.ref 59), some (.int x1), some (.int 0), some (.int 0)]) (st' := []) rfl ?_
  exact Ev.weak [some (.ref 59), some (.int x1), some (.int 0), some (.int 0)] (gw_leb_le ⟨rfl, rfl, rfl, rfl, trivial⟩) H

set_option maxRecDepth 20000 in
theorem w275_4 {E : gw_N} {M : Mem} {res : Option Value × gw_H} {x1 : Int32} {x2 : Int32} {x3 : Int32} (H : ((((M 59) 4) ≤ x3 → (x2 &&& 1 = x2 ∧ res = (some (.int x2), hs E M))) ∧ (¬ ((M 59) 4) ≤ x3 → ((x2 = 0 → (inb x3 30 ∧ ((((M 64) (x3 : Int32).toNatClampNeg) = 0 → Ev 3 275 4 [some (.ref 59), some (.int x1), some (.int 0), some (.int (x3 + 1))] [] (hs E M) res) ∧ (¬ ((M 64) (x3 : Int32).toNatClampNeg) = 0 → (inb x3 30 ∧ ((((M 65) (x3 : Int32).toNatClampNeg) = 0 → Ev 3 275 4 [some (.ref 59), some (.int x1), some (.int 0), some (.int (x3 + 1))] [] (hs E M) res) ∧ (¬ ((M 65) (x3 : Int32).toNatClampNeg) = 0 → (∃ (r1 : Int32), Rn 224 [.ref 59, .int x3, .int x1] (hs E M) (some (.int r1)) (hs E M) ∧ ((r1 = 0 → Ev 3 275 4 [some (.ref 59), some (.int x1), some (.int 0), some (.int (x3 + 1))] [] (hs E M) res) ∧ (¬ r1 = 0 → Ev 3 275 4 [some (.ref 59), some (.int x1), some (.int 1), some (.int (x3 + 1))] [] (hs E M) res)))))))))) ∧ (¬ x2 = 0 → Ev 3 275 4 [some (.ref 59), some (.int x1), some (.int 1), some (.int (x3 + 1))] [] (hs E M) res))))) : Ev 3 275 4 [some (.ref 59), some (.int x1), some (.int x2), some (.int x3)] [] (hs E M) res := by
  refine Ev.steps 4 (pc' := if ((M 59) 4) ≤ x3 then 55 else 12) (L' := [some (.ref 59), some (.int x1), some (.int x2), some (.int x3)]) (st' := []) rfl ?_
  refine Ev_ite (fun hc => ?_) (fun hc => ?_)
  · replace H := H.1 hc
    refine Ev.steps 1 (pc' := 56) (L' := [some (.ref 59), some (.int x1), some (.int x2), some (.int x3)]) (st' := [.int x2]) rfl ?_
    obtain ⟨H1, H⟩ := H
    subst H
    exact Ev.ret (if_pos H1)
  · replace H := H.2 hc
    refine Ev.steps 2 (pc' := if x2 = 0 then 16 else 43) (L' := [some (.ref 59), some (.int x1), some (.int x2), some (.int x3)]) (st' := []) rfl ?_
    refine Ev_ite (fun hc => ?_) (fun hc => ?_)
    · replace H := H.1 hc
      refine Ev.steps 3 (pc' := 21) (L' := [some (.ref 59), some (.int x1), some (.int x2), some (.int x3)]) (st' := [.int x3, .ref 64]) rfl ?_
      refine Ev.rd (i := x3) (n := 30) (pc' := 22) (L' := [some (.ref 59), some (.int x1), some (.int x2), some (.int x3)]) (st' := [.int ((M 64) (x3 : Int32).toNatClampNeg)]) H.1 rfl ?_
      replace H := H.2
      refine Ev.steps 1 (pc' := if ((M 64) (x3 : Int32).toNatClampNeg) = 0 then 47 else 25) (L' := [some (.ref 59), some (.int x1), some (.int x2), some (.int x3)]) (st' := []) rfl ?_
      refine Ev_ite (fun hc => ?_) (fun hc => ?_)
      · replace H := H.1 hc
        refine Ev.steps 4 (pc' := 4) (L' := [some (.ref 59), some (.int x1), some (.int 0), some (.int (x3 + 1))]) (st' := []) rfl ?_
        exact Ev.weak [some (.ref 59), some (.int x1), some (.int 0), some (.int (x3 + 1))] (gw_leb_le ⟨rfl, rfl, rfl, rfl, trivial⟩) H
      · replace H := H.2 hc
        refine Ev.steps 3 (pc' := 30) (L' := [some (.ref 59), some (.int x1), some (.int x2), some (.int x3)]) (st' := [.int x3, .ref 65]) rfl ?_
        refine Ev.rd (i := x3) (n := 30) (pc' := 31) (L' := [some (.ref 59), some (.int x1), some (.int x2), some (.int x3)]) (st' := [.int ((M 65) (x3 : Int32).toNatClampNeg)]) H.1 rfl ?_
        replace H := H.2
        refine Ev.steps 1 (pc' := if ((M 65) (x3 : Int32).toNatClampNeg) = 0 then 47 else 34) (L' := [some (.ref 59), some (.int x1), some (.int x2), some (.int x3)]) (st' := []) rfl ?_
        refine Ev_ite (fun hc => ?_) (fun hc => ?_)
        · replace H := H.1 hc
          refine Ev.steps 4 (pc' := 4) (L' := [some (.ref 59), some (.int x1), some (.int 0), some (.int (x3 + 1))]) (st' := []) rfl ?_
          exact Ev.weak [some (.ref 59), some (.int x1), some (.int 0), some (.int (x3 + 1))] (gw_leb_le ⟨rfl, rfl, rfl, rfl, trivial⟩) H
        · replace H := H.2 hc
          refine Ev.steps 3 (pc' := 37) (L' := [some (.ref 59), some (.int x1), some (.int x2), some (.int x3)]) (st' := [.int x1, .int x3, .ref 59]) rfl ?_
          obtain ⟨r1, hr1, H⟩ := H
          refine Ev.call (y := 224) (args := [.ref 59, .int x3, .int x1]) (rest := []) (r := (some (.int r1))) rfl hr1 ?_
          show Ev 3 275 40 [some (.ref 59), some (.int x1), some (.int x2), some (.int x3)] [.int r1] _ _
          refine Ev.steps 1 (pc' := if r1 = 0 then 47 else 43) (L' := [some (.ref 59), some (.int x1), some (.int x2), some (.int x3)]) (st' := []) rfl ?_
          refine Ev_ite (fun hc => ?_) (fun hc => ?_)
          · replace H := H.1 hc
            refine Ev.steps 4 (pc' := 4) (L' := [some (.ref 59), some (.int x1), some (.int 0), some (.int (x3 + 1))]) (st' := []) rfl ?_
            exact Ev.weak [some (.ref 59), some (.int x1), some (.int 0), some (.int (x3 + 1))] (gw_leb_le ⟨rfl, rfl, rfl, rfl, trivial⟩) H
          · replace H := H.2 hc
            refine Ev.steps 5 (pc' := 4) (L' := [some (.ref 59), some (.int x1), some (.int 1), some (.int (x3 + 1))]) (st' := []) rfl ?_
            exact Ev.weak [some (.ref 59), some (.int x1), some (.int 1), some (.int (x3 + 1))] (gw_leb_le ⟨rfl, rfl, rfl, rfl, trivial⟩) H
    · replace H := H.2 hc
      refine Ev.steps 5 (pc' := 4) (L' := [some (.ref 59), some (.int x1), some (.int 1), some (.int (x3 + 1))]) (st' := []) rfl ?_
      exact Ev.weak [some (.ref 59), some (.int x1), some (.int 1), some (.int (x3 + 1))] (gw_leb_le ⟨rfl, rfl, rfl, rfl, trivial⟩) H

-- 280 GlassWiresModel fills (I)I
set_option maxRecDepth 20000 in
theorem w280_0 {E : gw_N} {M : Mem} {res : Option Value × gw_H} {x1 : Int32} (H : (((F261 M x1) = 0 → res = (some (.int (-101)), hs E M)) ∧ (¬ (F261 M x1) = 0 → (∃ (r1 : Int32), Rn 279 [.ref 59, .int x1] (hs E M) (some (.int r1)) (hs E M) ∧ res = (some (.int r1), hs E M))))) : Ev 3 280 0 [some (.ref 59), some (.int x1)] [] (hs E M) res := by
  refine Ev.steps 1 (pc' := 1) (L' := [some (.ref 59), some (.int x1)]) (st' := [.int x1]) rfl ?_
  refine Ev.call (y := 261) (args := [.int x1]) (rest := []) (r := some (.int (F261 M x1))) rfl (s261) ?_
  show Ev 3 280 4 [some (.ref 59), some (.int x1)] [.int (F261 M x1)] _ _
  refine Ev.steps 1 (pc' := if (F261 M x1) = 0 then 15 else 7) (L' := [some (.ref 59), some (.int x1)]) (st' := []) rfl ?_
  refine Ev_ite (fun hc => ?_) (fun hc => ?_)
  · replace H := H.1 hc
    refine Ev.steps 1 (pc' := 17) (L' := [some (.ref 59), some (.int x1)]) (st' := [.int (-101)]) rfl ?_
    subst H
    exact Ev.ret rfl
  · replace H := H.2 hc
    refine Ev.steps 2 (pc' := 9) (L' := [some (.ref 59), some (.int x1)]) (st' := [.int x1, .ref 59]) rfl ?_
    obtain ⟨r1, hr1, H⟩ := H
    refine Ev.call (y := 279) (args := [.ref 59, .int x1]) (rest := []) (r := (some (.int r1))) rfl hr1 ?_
    show Ev 3 280 12 [some (.ref 59), some (.int x1)] [.int r1] _ _
    refine Ev.steps 1 (pc' := 17) (L' := [some (.ref 59), some (.int x1)]) (st' := [.int r1]) rfl ?_
    subst H
    exact Ev.ret rfl

-- 282 GlassWiresModel plan (I)I
set_option maxRecDepth 20000 in
theorem w282_0 {E : gw_N} {M : Mem} {res : Option Value × gw_H} {x1 : Int32} (H : (((F209 M (Int32.toInt64 x1) 0 255) = 0 → res = (some (.int (-102)), hs E M)) ∧ (¬ (F209 M (Int32.toInt64 x1) 0 255) = 0 → (∃ (M1 : Mem), Rn 281 [.ref 59, .int x1] (hs E M) none (hs E M1) ∧ res = (some (.int ((M1 59) 33)), hs E M1))))) : Ev 3 282 0 [some (.ref 59), some (.int x1)] [] (hs E M) res := by
  refine Ev.steps 4 (pc' := 6) (L' := [some (.ref 59), some (.int x1)]) (st' := [.long 255, .long 0, .long (Int32.toInt64 x1)]) rfl ?_
  refine Ev.call (y := 209) (args := [.long (Int32.toInt64 x1), .long 0, .long 255]) (rest := []) (r := some (.int (F209 M (Int32.toInt64 x1) 0 255))) rfl (s209) ?_
  show Ev 3 282 9 [some (.ref 59), some (.int x1)] [.int (F209 M (Int32.toInt64 x1) 0 255)] _ _
  refine Ev.steps 1 (pc' := if (F209 M (Int32.toInt64 x1) 0 255) = 0 then 12 else 15) (L' := [some (.ref 59), some (.int x1)]) (st' := []) rfl ?_
  refine Ev_ite (fun hc => ?_) (fun hc => ?_)
  · replace H := H.1 hc
    refine Ev.steps 1 (pc' := 14) (L' := [some (.ref 59), some (.int x1)]) (st' := [.int (-102)]) rfl ?_
    subst H
    exact Ev.ret rfl
  · replace H := H.2 hc
    refine Ev.steps 2 (pc' := 17) (L' := [some (.ref 59), some (.int x1)]) (st' := [.int x1, .ref 59]) rfl ?_
    obtain ⟨M1, hr1, H⟩ := H
    refine Ev.call (y := 281) (args := [.ref 59, .int x1]) (rest := []) (r := none) rfl hr1 ?_
    show Ev 3 282 20 [some (.ref 59), some (.int x1)] [] _ _
    refine Ev.steps 2 (pc' := 24) (L' := [some (.ref 59), some (.int x1)]) (st' := [.int ((M1 59) 33)]) rfl ?_
    subst H
    exact Ev.ret rfl

-- 283 GlassWiresModel heat (II)I
set_option maxRecDepth 20000 in
theorem w283_0 {E : gw_N} {M : Mem} {res : Option Value × gw_H} {x1 : Int32} {x2 : Int32} (H : (((F209 M (Int32.toInt64 x1) 0 255) = 0 → res = (some (.int (-102)), hs E M)) ∧ (¬ (F209 M (Int32.toInt64 x1) 0 255) = 0 → (∃ (M1 : Mem), Rn 281 [.ref 59, .int x1] (hs E M) none (hs E M1) ∧ (((F209 M1 (Int32.toInt64 x2) 0 (Int32.toInt64 (((M1 59) 33) - 1))) = 0 → res = (some (.int (-1)), hs E M1)) ∧ (¬ (F209 M1 (Int32.toInt64 x2) 0 (Int32.toInt64 (((M1 59) 33) - 1))) = 0 → (inb ((((M1 59) 33) - 1) - x2) 900 ∧ res = (some (.int ((M1 83) (((((M1 59) 33) - 1) - x2) : Int32).toNatClampNeg)), hs E M1)))))))) : Ev 3 283 0 [some (.ref 59), some (.int x1), some (.int x2)] [] (hs E M) res := by
  refine Ev.steps 4 (pc' := 6) (L' := [some (.ref 59), some (.int x1), some (.int x2)]) (st' := [.long 255, .long 0, .long (Int32.toInt64 x1)]) rfl ?_
  refine Ev.call (y := 209) (args := [.long (Int32.toInt64 x1), .long 0, .long 255]) (rest := []) (r := some (.int (F209 M (Int32.toInt64 x1) 0 255))) rfl (s209) ?_
  show Ev 3 283 9 [some (.ref 59), some (.int x1), some (.int x2)] [.int (F209 M (Int32.toInt64 x1) 0 255)] _ _
  refine Ev.steps 1 (pc' := if (F209 M (Int32.toInt64 x1) 0 255) = 0 then 12 else 15) (L' := [some (.ref 59), some (.int x1), some (.int x2)]) (st' := []) rfl ?_
  refine Ev_ite (fun hc => ?_) (fun hc => ?_)
  · replace H := H.1 hc
    refine Ev.steps 1 (pc' := 14) (L' := [some (.ref 59), some (.int x1), some (.int x2)]) (st' := [.int (-102)]) rfl ?_
    subst H
    exact Ev.ret rfl
  · replace H := H.2 hc
    refine Ev.steps 2 (pc' := 17) (L' := [some (.ref 59), some (.int x1), some (.int x2)]) (st' := [.int x1, .ref 59]) rfl ?_
    obtain ⟨M1, hr1, H⟩ := H
    refine Ev.call (y := 281) (args := [.ref 59, .int x1]) (rest := []) (r := none) rfl hr1 ?_
    show Ev 3 283 20 [some (.ref 59), some (.int x1), some (.int x2)] [] _ _
    refine Ev.steps 8 (pc' := 30) (L' := [some (.ref 59), some (.int x1), some (.int x2)]) (st' := [.long (Int32.toInt64 (((M1 59) 33) - 1)), .long 0, .long (Int32.toInt64 x2)]) rfl ?_
    refine Ev.call (y := 209) (args := [.long (Int32.toInt64 x2), .long 0, .long (Int32.toInt64 (((M1 59) 33) - 1))]) (rest := []) (r := some (.int (F209 M1 (Int32.toInt64 x2) 0 (Int32.toInt64 (((M1 59) 33) - 1))))) rfl (s209) ?_
    show Ev 3 283 33 [some (.ref 59), some (.int x1), some (.int x2)] [.int (F209 M1 (Int32.toInt64 x2) 0 (Int32.toInt64 (((M1 59) 33) - 1)))] _ _
    refine Ev.steps 1 (pc' := if (F209 M1 (Int32.toInt64 x2) 0 (Int32.toInt64 (((M1 59) 33) - 1))) = 0 then 52 else 36) (L' := [some (.ref 59), some (.int x1), some (.int x2)]) (st' := []) rfl ?_
    refine Ev_ite (fun hc => ?_) (fun hc => ?_)
    · replace H := H.1 hc
      refine Ev.steps 1 (pc' := 53) (L' := [some (.ref 59), some (.int x1), some (.int x2)]) (st' := [.int (-1)]) rfl ?_
      subst H
      exact Ev.ret rfl
    · replace H := H.2 hc
      refine Ev.steps 8 (pc' := 48) (L' := [some (.ref 59), some (.int x1), some (.int x2)]) (st' := [.int ((((M1 59) 33) - 1) - x2), .ref 83]) rfl ?_
      refine Ev.rd (i := ((((M1 59) 33) - 1) - x2)) (n := 900) (pc' := 49) (L' := [some (.ref 59), some (.int x1), some (.int x2)]) (st' := [.int ((M1 83) (((((M1 59) 33) - 1) - x2) : Int32).toNatClampNeg)]) H.1 rfl ?_
      replace H := H.2
      refine Ev.steps 1 (pc' := 53) (L' := [some (.ref 59), some (.int x1), some (.int x2)]) (st' := [.int ((M1 83) (((((M1 59) 33) - 1) - x2) : Int32).toNatClampNeg)]) rfl ?_
      subst H
      exact Ev.ret rfl

-- 284 GlassWiresModel back (II)I
set_option maxRecDepth 20000 in
theorem w284_0 {E : gw_N} {M : Mem} {res : Option Value × gw_H} {x1 : Int32} {x2 : Int32} (H : (((F261 M x1) = 0 → res = (some (.int (-101)), hs E M)) ∧ (¬ (F261 M x1) = 0 → (((F209 M (Int32.toInt64 x2) 0 99) = 0 → res = (some (.int (-102)), hs E M)) ∧ (¬ (F209 M (Int32.toInt64 x2) 0 99) = 0 → res = (some (.int 1), hs E (up M 59 (upd (upd (M 59) 34 x1) 35 x2)))))))) : Ev 3 284 0 [some (.ref 59), some (.int x1), some (.int x2)] [] (hs E M) res := by
  refine Ev.steps 1 (pc' := 1) (L' := [some (.ref 59), some (.int x1), some (.int x2)]) (st' := [.int x1]) rfl ?_
  refine Ev.call (y := 261) (args := [.int x1]) (rest := []) (r := some (.int (F261 M x1))) rfl (s261) ?_
  show Ev 3 284 4 [some (.ref 59), some (.int x1), some (.int x2)] [.int (F261 M x1)] _ _
  refine Ev.steps 1 (pc' := if (F261 M x1) = 0 then 7 else 10) (L' := [some (.ref 59), some (.int x1), some (.int x2)]) (st' := []) rfl ?_
  refine Ev_ite (fun hc => ?_) (fun hc => ?_)
  · replace H := H.1 hc
    refine Ev.steps 1 (pc' := 9) (L' := [some (.ref 59), some (.int x1), some (.int x2)]) (st' := [.int (-101)]) rfl ?_
    subst H
    exact Ev.ret rfl
  · replace H := H.2 hc
    refine Ev.steps 4 (pc' := 16) (L' := [some (.ref 59), some (.int x1), some (.int x2)]) (st' := [.long 99, .long 0, .long (Int32.toInt64 x2)]) rfl ?_
    refine Ev.call (y := 209) (args := [.long (Int32.toInt64 x2), .long 0, .long 99]) (rest := []) (r := some (.int (F209 M (Int32.toInt64 x2) 0 99))) rfl (s209) ?_
    show Ev 3 284 19 [some (.ref 59), some (.int x1), some (.int x2)] [.int (F209 M (Int32.toInt64 x2) 0 99)] _ _
    refine Ev.steps 1 (pc' := if (F209 M (Int32.toInt64 x2) 0 99) = 0 then 22 else 25) (L' := [some (.ref 59), some (.int x1), some (.int x2)]) (st' := []) rfl ?_
    refine Ev_ite (fun hc => ?_) (fun hc => ?_)
    · replace H := H.1 hc
      refine Ev.steps 1 (pc' := 24) (L' := [some (.ref 59), some (.int x1), some (.int x2)]) (st' := [.int (-102)]) rfl ?_
      subst H
      exact Ev.ret rfl
    · replace H := H.2 hc
      refine Ev.steps 2 (pc' := 27) (L' := [some (.ref 59), some (.int x1), some (.int x2)]) (st' := [.int x1, .ref 59]) rfl ?_
      refine Ev.mem (a := 59) (g := (upd (M 59) 34 x1)) (pc' := 30) (L' := [some (.ref 59), some (.int x1), some (.int x2)]) (st' := []) (by decide) rfl ?_
      refine Ev.steps 2 (pc' := 32) (L' := [some (.ref 59), some (.int x1), some (.int x2)]) (st' := [.int x2, .ref 59]) rfl ?_
      refine Ev.mem (a := 59) (g := (upd (upd (M 59) 34 x1) 35 x2)) (pc' := 35) (L' := [some (.ref 59), some (.int x1), some (.int x2)]) (st' := []) (by decide) rfl ?_
      refine Ev.mto (M' := (up M 59 (upd (upd (M 59) 34 x1) 35 x2))) (by funext q9; unfold up; by_cases e9 : q9 = 59 <;> simp [e9]) ?_
      refine Ev.steps 1 (pc' := 36) (L' := [some (.ref 59), some (.int x1), some (.int x2)]) (st' := [.int 1]) rfl ?_
      subst H
      exact Ev.ret rfl

-- 286 GlassWiresModel pull (I)I
set_option maxRecDepth 20000 in
theorem w286_0 {E : gw_N} {M : Mem} {res : Option Value × gw_H} {x1 : Int32} (H : ((x1 = 0 → (∃ (r1 : Int32), Rn 285 [.ref 59] (hs E M) (some (.int r1)) (hs E M) ∧ res = (some (.int r1), hs E M))) ∧ (¬ x1 = 0 → ((x1 = 1 → (inb ((M 59) 34) 8 ∧ res = (some (.int (((F243 M) * ((M 59) 35)) * ((M 75) (((M 59) 34) : Int32).toNatClampNeg))), hs E M))) ∧ (¬ x1 = 1 → res = (some (.int (-102)), hs E M)))))) : Ev 3 286 0 [some (.ref 59), some (.int x1)] [] (hs E M) res := by
  refine Ev.steps 2 (pc' := if x1 = 0 then 4 else 11) (L' := [some (.ref 59), some (.int x1)]) (st' := []) rfl ?_
  refine Ev_ite (fun hc => ?_) (fun hc => ?_)
  · replace H := H.1 hc
    refine Ev.steps 1 (pc' := 5) (L' := [some (.ref 59), some (.int x1)]) (st' := [.ref 59]) rfl ?_
    obtain ⟨r1, hr1, H⟩ := H
    refine Ev.call (y := 285) (args := [.ref 59]) (rest := []) (r := (some (.int r1))) rfl hr1 ?_
    show Ev 3 286 8 [some (.ref 59), some (.int x1)] [.int r1] _ _
    refine Ev.steps 1 (pc' := 40) (L' := [some (.ref 59), some (.int x1)]) (st' := [.int r1]) rfl ?_
    subst H
    exact Ev.ret rfl
  · replace H := H.2 hc
    refine Ev.steps 3 (pc' := if x1 = 1 then 16 else 38) (L' := [some (.ref 59), some (.int x1)]) (st' := []) rfl ?_
    refine Ev_ite (fun hc => ?_) (fun hc => ?_)
    · replace H := H.1 hc
      refine Ev.steps 1 (pc' := 17) (L' := [some (.ref 59), some (.int x1)]) (st' := [.ref 59]) rfl ?_
      refine Ev.call (y := 243) (args := [.ref 59]) (rest := []) (r := some (.int (F243 M))) rfl (s243) ?_
      show Ev 3 286 20 [some (.ref 59), some (.int x1)] [.int (F243 M)] _ _
      refine Ev.steps 7 (pc' := 33) (L' := [some (.ref 59), some (.int x1)]) (st' := [.int ((M 59) 34), .ref 75, .int ((F243 M) * ((M 59) 35))]) rfl ?_
      refine Ev.rd (i := ((M 59) 34)) (n := 8) (pc' := 34) (L' := [some (.ref 59), some (.int x1)]) (st' := [.int ((M 75) (((M 59) 34) : Int32).toNatClampNeg), .int ((F243 M) * ((M 59) 35))]) H.1 rfl ?_
      replace H := H.2
      refine Ev.steps 2 (pc' := 40) (L' := [some (.ref 59), some (.int x1)]) (st' := [.int (((F243 M) * ((M 59) 35)) * ((M 75) (((M 59) 34) : Int32).toNatClampNeg))]) rfl ?_
      subst H
      exact Ev.ret rfl
    · replace H := H.2 hc
      refine Ev.steps 1 (pc' := 40) (L' := [some (.ref 59), some (.int x1)]) (st' := [.int (-102)]) rfl ?_
      subst H
      exact Ev.ret rfl

-- 287 GlassWiresModel bowOf (II)I
set_option maxRecDepth 20000 in
theorem w287_0 {E : gw_N} {M : Mem} {res : Option Value × gw_H} {x1 : Int32} {x2 : Int32} (H : (∃ (r1 : Int32), Rn 285 [.ref 59] (hs E M) (some (.int r1)) (hs E M) ∧ (inb x1 8 ∧ (¬ (F243 M) = 0 ∧ res = (some (.int ((r1 - (((F243 M) * x2) * ((M 75) (x1 : Int32).toNatClampNeg))) / (F243 M))), hs E M))))) : Ev 3 287 0 [some (.ref 59), some (.int x1), some (.int x2)] [] (hs E M) res := by
  refine Ev.steps 1 (pc' := 1) (L' := [some (.ref 59), some (.int x1), some (.int x2)]) (st' := [.ref 59]) rfl ?_
  obtain ⟨r1, hr1, H⟩ := H
  refine Ev.call (y := 285) (args := [.ref 59]) (rest := []) (r := (some (.int r1))) rfl hr1 ?_
  show Ev 3 287 4 [some (.ref 59), some (.int x1), some (.int x2)] [.int r1] _ _
  refine Ev.steps 1 (pc' := 5) (L' := [some (.ref 59), some (.int x1), some (.int x2)]) (st' := [.ref 59, .int r1]) rfl ?_
  refine Ev.call (y := 243) (args := [.ref 59]) (rest := [.int r1]) (r := some (.int (F243 M))) rfl (s243) ?_
  show Ev 3 287 8 [some (.ref 59), some (.int x1), some (.int x2)] [.int (F243 M), .int r1] _ _
  refine Ev.steps 5 (pc' := 15) (L' := [some (.ref 59), some (.int x1), some (.int x2)]) (st' := [.int x1, .ref 75, .int ((F243 M) * x2), .int r1]) rfl ?_
  refine Ev.rd (i := x1) (n := 8) (pc' := 16) (L' := [some (.ref 59), some (.int x1), some (.int x2)]) (st' := [.int ((M 75) (x1 : Int32).toNatClampNeg), .int ((F243 M) * x2), .int r1]) H.1 rfl ?_
  replace H := H.2
  refine Ev.steps 3 (pc' := 19) (L' := [some (.ref 59), some (.int x1), some (.int x2)]) (st' := [.ref 59, .int (r1 - (((F243 M) * x2) * ((M 75) (x1 : Int32).toNatClampNeg)))]) rfl ?_
  refine Ev.call (y := 243) (args := [.ref 59]) (rest := [.int (r1 - (((F243 M) * x2) * ((M 75) (x1 : Int32).toNatClampNeg)))]) (r := some (.int (F243 M))) rfl (s243) ?_
  show Ev 3 287 22 [some (.ref 59), some (.int x1), some (.int x2)] [.int (F243 M), .int (r1 - (((F243 M) * x2) * ((M 75) (x1 : Int32).toNatClampNeg)))] _ _
  refine Ev.dv (y := (F243 M)) (pc' := 23) (L' := [some (.ref 59), some (.int x1), some (.int x2)]) (st' := [.int ((r1 - (((F243 M) * x2) * ((M 75) (x1 : Int32).toNatClampNeg))) / (F243 M))]) H.1 rfl ?_
  replace H := H.2
  subst H
  exact Ev.ret rfl

-- 298 GlassWiresModel harmsOf (II)I
set_option maxRecDepth 20000 in
theorem w298_0 {E : gw_N} {M : Mem} {res : Option Value × gw_H} {x1 : Int32} {x2 : Int32} (H : Ev 3 298 5 [some (.ref 59), some (.int x1), some (.int x2), some (.int 0), some (.int 0)] [] (hs E M) res) : Ev 3 298 0 [some (.ref 59), some (.int x1), some (.int x2), none, none] [] (hs E M) res := by
  refine Ev.steps 4 (pc' := 5) (L' := [some (.ref 59), some (.int x1), some (.int x2), some (.int 0), some (.int 0)]) (st' := []) rfl ?_
  exact Ev.weak [some (.ref 59), some (.int x1), some (.int x2), some (.int 0), some (.int 0)] (gw_leb_le ⟨rfl, rfl, rfl, rfl, rfl, trivial⟩) H

set_option maxRecDepth 20000 in
theorem w298_5 {E : gw_N} {M : Mem} {res : Option Value × gw_H} {x1 : Int32} {x2 : Int32} {x3 : Int32} {x4 : Int32} (H : (((F243 M) ≤ x4 → res = (some (.int x3), hs E M)) ∧ (¬ (F243 M) ≤ x4 → (inb x4 64 ∧ ((((M 69) (x4 : Int32).toNatClampNeg) = x4 → ((x4 = x1 → Ev 3 298 5 [some (.ref 59), some (.int x1), some (.int x2), some (.int (x3 + 0)), some (.int (x4 + 1))] [] (hs E M) res) ∧ (¬ x4 = x1 → (∃ (r1 : Int32), Rn 297 [.ref 59, .int x4, .int x2] (hs E M) (some (.int r1)) (hs E M) ∧ ((r1 = 0 → Ev 3 298 5 [some (.ref 59), some (.int x1), some (.int x2), some (.int (x3 + 0)), some (.int (x4 + 1))] [] (hs E M) res) ∧ (¬ r1 = 0 → Ev 3 298 5 [some (.ref 59), some (.int x1), some (.int x2), some (.int (x3 + 1)), some (.int (x4 + 1))] [] (hs E M) res)))))) ∧ (¬ ((M 69) (x4 : Int32).toNatClampNeg) = x4 → Ev 3 298 5 [some (.ref 59), some (.int x1), some (.int x2), some (.int (x3 + 0)), some (.int (x4 + 1))] [] (hs E M) res)))))) : Ev 3 298 5 [some (.ref 59), some (.int x1), some (.int x2), some (.int x3), some (.int x4)] [] (hs E M) res := by
  refine Ev.steps 2 (pc' := 8) (L' := [some (.ref 59), some (.int x1), some (.int x2), some (.int x3), some (.int x4)]) (st' := [.ref 59, .int x4]) rfl ?_
  refine Ev.call (y := 243) (args := [.ref 59]) (rest := [.int x4]) (r := some (.int (F243 M))) rfl (s243) ?_
  show Ev 3 298 11 [some (.ref 59), some (.int x1), some (.int x2), some (.int x3), some (.int x4)] [.int (F243 M), .int x4] _ _
  refine Ev.steps 1 (pc' := if (F243 M) ≤ x4 then 56 else 14) (L' := [some (.ref 59), some (.int x1), some (.int x2), some (.int x3), some (.int x4)]) (st' := []) rfl ?_
  refine Ev_ite (fun hc => ?_) (fun hc => ?_)
  · replace H := H.1 hc
    refine Ev.steps 1 (pc' := 57) (L' := [some (.ref 59), some (.int x1), some (.int x2), some (.int x3), some (.int x4)]) (st' := [.int x3]) rfl ?_
    subst H
    exact Ev.ret rfl
  · replace H := H.2 hc
    refine Ev.steps 4 (pc' := 21) (L' := [some (.ref 59), some (.int x1), some (.int x2), some (.int x3), some (.int x4)]) (st' := [.int x4, .ref 69, .int x3]) rfl ?_
    refine Ev.rd (i := x4) (n := 64) (pc' := 22) (L' := [some (.ref 59), some (.int x1), some (.int x2), some (.int x3), some (.int x4)]) (st' := [.int ((M 69) (x4 : Int32).toNatClampNeg), .int x3]) H.1 rfl ?_
    replace H := H.2
    refine Ev.steps 2 (pc' := if ((M 69) (x4 : Int32).toNatClampNeg) = x4 then 27 else 47) (L' := [some (.ref 59), some (.int x1), some (.int x2), some (.int x3), some (.int x4)]) (st' := [.int x3]) rfl ?_
    refine Ev_ite (fun hc => ?_) (fun hc => ?_)
    · replace H := H.1 hc
      refine Ev.steps 3 (pc' := if x4 = x1 then 47 else 33) (L' := [some (.ref 59), some (.int x1), some (.int x2), some (.int x3), some (.int x4)]) (st' := [.int x3]) rfl ?_
      refine Ev_ite (fun hc => ?_) (fun hc => ?_)
      · replace H := H.1 hc
        refine Ev.steps 5 (pc' := 5) (L' := [some (.ref 59), some (.int x1), some (.int x2), some (.int (x3 + 0)), some (.int (x4 + 1))]) (st' := []) rfl ?_
        exact Ev.weak [some (.ref 59), some (.int x1), some (.int x2), some (.int (x3 + 0)), some (.int (x4 + 1))] (gw_leb_le ⟨rfl, rfl, rfl, rfl, rfl, trivial⟩) H
      · replace H := H.2 hc
        refine Ev.steps 3 (pc' := 37) (L' := [some (.ref 59), some (.int x1), some (.int x2), some (.int x3), some (.int x4)]) (st' := [.int x2, .int x4, .ref 59, .int x3]) rfl ?_
        obtain ⟨r1, hr1, H⟩ := H
        refine Ev.call (y := 297) (args := [.ref 59, .int x4, .int x2]) (rest := [.int x3]) (r := (some (.int r1))) rfl hr1 ?_
        show Ev 3 298 40 [some (.ref 59), some (.int x1), some (.int x2), some (.int x3), some (.int x4)] [.int r1, .int x3] _ _
        refine Ev.steps 1 (pc' := if r1 = 0 then 47 else 43) (L' := [some (.ref 59), some (.int x1), some (.int x2), some (.int x3), some (.int x4)]) (st' := [.int x3]) rfl ?_
        refine Ev_ite (fun hc => ?_) (fun hc => ?_)
        · replace H := H.1 hc
          refine Ev.steps 5 (pc' := 5) (L' := [some (.ref 59), some (.int x1), some (.int x2), some (.int (x3 + 0)), some (.int (x4 + 1))]) (st' := []) rfl ?_
          exact Ev.weak [some (.ref 59), some (.int x1), some (.int x2), some (.int (x3 + 0)), some (.int (x4 + 1))] (gw_leb_le ⟨rfl, rfl, rfl, rfl, rfl, trivial⟩) H
        · replace H := H.2 hc
          refine Ev.steps 6 (pc' := 5) (L' := [some (.ref 59), some (.int x1), some (.int x2), some (.int (x3 + 1)), some (.int (x4 + 1))]) (st' := []) rfl ?_
          exact Ev.weak [some (.ref 59), some (.int x1), some (.int x2), some (.int (x3 + 1)), some (.int (x4 + 1))] (gw_leb_le ⟨rfl, rfl, rfl, rfl, rfl, trivial⟩) H
    · replace H := H.2 hc
      refine Ev.steps 5 (pc' := 5) (L' := [some (.ref 59), some (.int x1), some (.int x2), some (.int (x3 + 0)), some (.int (x4 + 1))]) (st' := []) rfl ?_
      exact Ev.weak [some (.ref 59), some (.int x1), some (.int x2), some (.int (x3 + 0)), some (.int (x4 + 1))] (gw_leb_le ⟨rfl, rfl, rfl, rfl, rfl, trivial⟩) H

-- 2 GlassWires$Cells spread (I)I
set_option maxRecDepth 20000 in
theorem w2_0 {E : gw_N} {M : Mem} {res : Option Value × gw_H} {x1 : Int32} (H : (inb x1 64 ∧ (inb 0 64 ∧ Ev 4 2 18 [some (.ref 32), some (.int x1), some (.int 1), some (.int 0), none, none] [] (hs E (up (up M 33 (upd (M 33) (x1 : Int32).toNatClampNeg x1)) 35 (upd (M 35) (0 : Int32).toNatClampNeg x1))) res))) : Ev 4 2 0 [some (.ref 32), some (.int x1), none, none, none, none] [] (hs E M) res := by
  refine Ev.steps 4 (pc' := 6) (L' := [some (.ref 32), some (.int x1), none, none, none, none]) (st' := [.int x1, .int x1, .ref 33]) rfl ?_
  refine Ev.wr (a := 33) (g := (upd (M 33) (x1 : Int32).toNatClampNeg x1)) (i := x1) (n := 64) (pc' := 7) (L' := [some (.ref 32), some (.int x1), none, none, none, none]) (st' := []) (by decide) H.1 rfl ?_
  replace H := H.2
  refine Ev.steps 4 (pc' := 13) (L' := [some (.ref 32), some (.int x1), none, none, none, none]) (st' := [.int x1, .int 0, .ref 35]) rfl ?_
  refine Ev.wr (a := 35) (g := (upd (M 35) (0 : Int32).toNatClampNeg x1)) (i := 0) (n := 64) (pc' := 14) (L' := [some (.ref 32), some (.int x1), none, none, none, none]) (st' := []) (by decide) H.1 rfl ?_
  replace H := H.2
  refine Ev.steps 4 (pc' := 18) (L' := [some (.ref 32), some (.int x1), some (.int 1), some (.int 0), none, none]) (st' := []) rfl ?_
  exact Ev.weak [some (.ref 32), some (.int x1), some (.int 1), some (.int 0), none, none] (gw_leb_le ⟨rfl, rfl, rfl, rfl, trivial⟩) H

set_option maxRecDepth 20000 in
theorem w2_18 {E : gw_N} {M : Mem} {res : Option Value × gw_H} {x1 : Int32} {x2 : Int32} {x3 : Int32} (H : ((x2 ≤ x3 → res = (some (.int x2), hs E M)) ∧ (¬ x2 ≤ x3 → ((64 ≤ x3 → res = (some (.int x2), hs E M)) ∧ (¬ 64 ≤ x3 → Ev 4 2 32 [some (.ref 32), some (.int x1), some (.int x2), some (.int x3), some (.int 0), none] [] (hs E M) res))))) : Ev 4 2 18 [some (.ref 32), some (.int x1), some (.int x2), some (.int x3), none, none] [] (hs E M) res := by
  refine Ev.steps 3 (pc' := if x2 ≤ x3 then 134 else 23) (L' := [some (.ref 32), some (.int x1), some (.int x2), some (.int x3), none, none]) (st' := []) rfl ?_
  refine Ev_ite (fun hc => ?_) (fun hc => ?_)
  · replace H := H.1 hc
    refine Ev.steps 1 (pc' := 135) (L' := [some (.ref 32), some (.int x1), some (.int x2), some (.int x3), none, none]) (st' := [.int x2]) rfl ?_
    subst H
    exact Ev.ret rfl
  · replace H := H.2 hc
    refine Ev.steps 3 (pc' := if 64 ≤ x3 then 134 else 29) (L' := [some (.ref 32), some (.int x1), some (.int x2), some (.int x3), none, none]) (st' := []) rfl ?_
    refine Ev_ite (fun hc => ?_) (fun hc => ?_)
    · replace H := H.1 hc
      refine Ev.steps 1 (pc' := 135) (L' := [some (.ref 32), some (.int x1), some (.int x2), some (.int x3), none, none]) (st' := [.int x2]) rfl ?_
      subst H
      exact Ev.ret rfl
    · replace H := H.2 hc
      refine Ev.steps 2 (pc' := 32) (L' := [some (.ref 32), some (.int x1), some (.int x2), some (.int x3), some (.int 0), none]) (st' := []) rfl ?_
      exact Ev.weak [some (.ref 32), some (.int x1), some (.int x2), some (.int x3), some (.int 0), none] (gw_leb_le ⟨rfl, rfl, rfl, rfl, rfl, trivial⟩) H

set_option maxRecDepth 20000 in
theorem w2_32 {E : gw_N} {M : Mem} {res : Option Value × gw_H} {x1 : Int32} {x2 : Int32} {x3 : Int32} {x4 : Int32} (H : ((4 ≤ x4 → Ev 4 2 18 [some (.ref 32), some (.int x1), some (.int x2), some (.int (x3 + 1)), none, none] [] (hs E M) res) ∧ (¬ 4 ≤ x4 → (inb x3 64 ∧ (P46 M ((M 35) (x3 : Int32).toNatClampNeg) x4 ∧ (((F46 M ((M 35) (x3 : Int32).toNatClampNeg) x4) = (-1) → Ev 4 2 32 [some (.ref 32), some (.int x1), some (.int x2), some (.int x3), some (.int (x4 + 1)), none] [] (hs E M) res) ∧ (¬ (F46 M ((M 35) (x3 : Int32).toNatClampNeg) x4) = (-1) → (inb (F46 M ((M 35) (x3 : Int32).toNatClampNeg) x4) 64 ∧ ((((M 33) ((F46 M ((M 35) (x3 : Int32).toNatClampNeg) x4) : Int32).toNatClampNeg) = (-1) → ((64 ≤ x2 → Ev 4 2 32 [some (.ref 32), some (.int x1), some (.int x2), some (.int x3), some (.int (x4 + 1)), none] [] (hs E M) res) ∧ (¬ 64 ≤ x2 → (inb x3 64 ∧ (P47 M ((M 35) (x3 : Int32).toNatClampNeg) x4 ∧ (P67 M (F47 M ((M 35) (x3 : Int32).toNatClampNeg) x4) ∧ (((F67 M (F47 M ((M 35) (x3 : Int32).toNatClampNeg) x4)) = 0 → Ev 4 2 32 [some (.ref 32), some (.int x1), some (.int x2), some (.int x3), some (.int (x4 + 1)), none] [] (hs E M) res) ∧ (¬ (F67 M (F47 M ((M 35) (x3 : Int32).toNatClampNeg) x4)) = 0 → (inb (F46 M ((M 35) (x3 : Int32).toNatClampNeg) x4) 64 ∧ (inb x2 64 ∧ Ev 4 2 32 [some (.ref 32), some (.int x1), some (.int (x2 + 1)), some (.int x3), some (.int (x4 + 1)), none] [] (hs E (up (up M 33 (upd (M 33) ((F46 M ((M 35) (x3 : Int32).toNatClampNeg) x4) : Int32).toNatClampNeg x1)) 35 (upd (M 35) (x2 : Int32).toNatClampNeg (F46 M ((M 35) (x3 : Int32).toNatClampNeg) x4)))) res)))))))))) ∧ (¬ ((M 33) ((F46 M ((M 35) (x3 : Int32).toNatClampNeg) x4) : Int32).toNatClampNeg) = (-1) → Ev 4 2 32 [some (.ref 32), some (.int x1), some (.int x2), some (.int x3), some (.int (x4 + 1)), none] [] (hs E M) res)))))))))) : Ev 4 2 32 [some (.ref 32), some (.int x1), some (.int x2), some (.int x3), some (.int x4), none] [] (hs E M) res := by
  refine Ev.steps 3 (pc' := if 4 ≤ x4 then 128 else 38) (L' := [some (.ref 32), some (.int x1), some (.int x2), some (.int x3), some (.int x4), none]) (st' := []) rfl ?_
  refine Ev_ite (fun hc => ?_) (fun hc => ?_)
  · replace H := H.1 hc
    refine Ev.steps 2 (pc' := 18) (L' := [some (.ref 32), some (.int x1), some (.int x2), some (.int (x3 + 1)), some (.int x4), none]) (st' := []) rfl ?_
    exact Ev.weak [some (.ref 32), some (.int x1), some (.int x2), some (.int (x3 + 1)), none, none] (gw_leb_le ⟨rfl, rfl, rfl, rfl, trivial⟩) H
  · replace H := H.2 hc
    refine Ev.steps 5 (pc' := 47) (L' := [some (.ref 32), some (.int x1), some (.int x2), some (.int x3), some (.int x4), none]) (st' := [.int x3, .ref 35, .ref 9]) rfl ?_
    refine Ev.rd (i := x3) (n := 64) (pc' := 48) (L' := [some (.ref 32), some (.int x1), some (.int x2), some (.int x3), some (.int x4), none]) (st' := [.int ((M 35) (x3 : Int32).toNatClampNeg), .ref 9]) H.1 rfl ?_
    replace H := H.2
    refine Ev.steps 1 (pc' := 50) (L' := [some (.ref 32), some (.int x1), some (.int x2), some (.int x3), some (.int x4), none]) (st' := [.int x4, .int ((M 35) (x3 : Int32).toNatClampNeg), .ref 9]) rfl ?_
    refine Ev.call (y := 46) (args := [.ref 9, .int ((M 35) (x3 : Int32).toNatClampNeg), .int x4]) (rest := []) (r := some (.int (F46 M ((M 35) (x3 : Int32).toNatClampNeg) x4))) rfl (s46 H.1) ?_
    replace H := H.2
    show Ev 4 2 53 [some (.ref 32), some (.int x1), some (.int x2), some (.int x3), some (.int x4), none] [.int (F46 M ((M 35) (x3 : Int32).toNatClampNeg) x4)] _ _
    refine Ev.steps 4 (pc' := if (F46 M ((M 35) (x3 : Int32).toNatClampNeg) x4) = (-1) then 122 else 61) (L' := [some (.ref 32), some (.int x1), some (.int x2), some (.int x3), some (.int x4), some (.int (F46 M ((M 35) (x3 : Int32).toNatClampNeg) x4))]) (st' := []) rfl ?_
    refine Ev_ite (fun hc => ?_) (fun hc => ?_)
    · replace H := H.1 hc
      refine Ev.steps 2 (pc' := 32) (L' := [some (.ref 32), some (.int x1), some (.int x2), some (.int x3), some (.int (x4 + 1)), some (.int (F46 M ((M 35) (x3 : Int32).toNatClampNeg) x4))]) (st' := []) rfl ?_
      exact Ev.weak [some (.ref 32), some (.int x1), some (.int x2), some (.int x3), some (.int (x4 + 1)), none] (gw_leb_le ⟨rfl, rfl, rfl, rfl, rfl, trivial⟩) H
    · replace H := H.2 hc
      refine Ev.steps 3 (pc' := 67) (L' := [some (.ref 32), some (.int x1), some (.int x2), some (.int x3), some (.int x4), some (.int (F46 M ((M 35) (x3 : Int32).toNatClampNeg) x4))]) (st' := [.int (F46 M ((M 35) (x3 : Int32).toNatClampNeg) x4), .ref 33]) rfl ?_
      refine Ev.rd (i := (F46 M ((M 35) (x3 : Int32).toNatClampNeg) x4)) (n := 64) (pc' := 68) (L' := [some (.ref 32), some (.int x1), some (.int x2), some (.int x3), some (.int x4), some (.int (F46 M ((M 35) (x3 : Int32).toNatClampNeg) x4))]) (st' := [.int ((M 33) ((F46 M ((M 35) (x3 : Int32).toNatClampNeg) x4) : Int32).toNatClampNeg)]) H.1 rfl ?_
      replace H := H.2
      refine Ev.steps 2 (pc' := if ((M 33) ((F46 M ((M 35) (x3 : Int32).toNatClampNeg) x4) : Int32).toNatClampNeg) = (-1) then 72 else 122) (L' := [some (.ref 32), some (.int x1), some (.int x2), some (.int x3), some (.int x4), some (.int (F46 M ((M 35) (x3 : Int32).toNatClampNeg) x4))]) (st' := []) rfl ?_
      refine Ev_ite (fun hc => ?_) (fun hc => ?_)
      · replace H := H.1 hc
        refine Ev.steps 3 (pc' := if 64 ≤ x2 then 122 else 78) (L' := [some (.ref 32), some (.int x1), some (.int x2), some (.int x3), some (.int x4), some (.int (F46 M ((M 35) (x3 : Int32).toNatClampNeg) x4))]) (st' := []) rfl ?_
        refine Ev_ite (fun hc => ?_) (fun hc => ?_)
        · replace H := H.1 hc
          refine Ev.steps 2 (pc' := 32) (L' := [some (.ref 32), some (.int x1), some (.int x2), some (.int x3), some (.int (x4 + 1)), some (.int (F46 M ((M 35) (x3 : Int32).toNatClampNeg) x4))]) (st' := []) rfl ?_
          exact Ev.weak [some (.ref 32), some (.int x1), some (.int x2), some (.int x3), some (.int (x4 + 1)), none] (gw_leb_le ⟨rfl, rfl, rfl, rfl, rfl, trivial⟩) H
        · replace H := H.2 hc
          refine Ev.steps 7 (pc' := 91) (L' := [some (.ref 32), some (.int x1), some (.int x2), some (.int x3), some (.int x4), some (.int (F46 M ((M 35) (x3 : Int32).toNatClampNeg) x4))]) (st' := [.int x3, .ref 35, .ref 9, .ref 22]) rfl ?_
          refine Ev.rd (i := x3) (n := 64) (pc' := 92) (L' := [some (.ref 32), some (.int x1), some (.int x2), some (.int x3), some (.int x4), some (.int (F46 M ((M 35) (x3 : Int32).toNatClampNeg) x4))]) (st' := [.int ((M 35) (x3 : Int32).toNatClampNeg), .ref 9, .ref 22]) H.1 rfl ?_
          replace H := H.2
          refine Ev.steps 1 (pc' := 94) (L' := [some (.ref 32), some (.int x1), some (.int x2), some (.int x3), some (.int x4), some (.int (F46 M ((M 35) (x3 : Int32).toNatClampNeg) x4))]) (st' := [.int x4, .int ((M 35) (x3 : Int32).toNatClampNeg), .ref 9, .ref 22]) rfl ?_
          refine Ev.call (y := 47) (args := [.ref 9, .int ((M 35) (x3 : Int32).toNatClampNeg), .int x4]) (rest := [.ref 22]) (r := some (.int (F47 M ((M 35) (x3 : Int32).toNatClampNeg) x4))) rfl (s47 H.1) ?_
          replace H := H.2
          show Ev 4 2 97 [some (.ref 32), some (.int x1), some (.int x2), some (.int x3), some (.int x4), some (.int (F46 M ((M 35) (x3 : Int32).toNatClampNeg) x4))] [.int (F47 M ((M 35) (x3 : Int32).toNatClampNeg) x4), .ref 22] _ _
          refine Ev.call (y := 67) (args := [.ref 22, .int (F47 M ((M 35) (x3 : Int32).toNatClampNeg) x4)]) (rest := []) (r := some (.int (F67 M (F47 M ((M 35) (x3 : Int32).toNatClampNeg) x4)))) rfl (s67 H.1) ?_
          replace H := H.2
          show Ev 4 2 100 [some (.ref 32), some (.int x1), some (.int x2), some (.int x3), some (.int x4), some (.int (F46 M ((M 35) (x3 : Int32).toNatClampNeg) x4))] [.int (F67 M (F47 M ((M 35) (x3 : Int32).toNatClampNeg) x4))] _ _
          refine Ev.steps 1 (pc' := if (F67 M (F47 M ((M 35) (x3 : Int32).toNatClampNeg) x4)) = 0 then 122 else 103) (L' := [some (.ref 32), some (.int x1), some (.int x2), some (.int x3), some (.int x4), some (.int (F46 M ((M 35) (x3 : Int32).toNatClampNeg) x4))]) (st' := []) rfl ?_
          refine Ev_ite (fun hc => ?_) (fun hc => ?_)
          · replace H := H.1 hc
            refine Ev.steps 2 (pc' := 32) (L' := [some (.ref 32), some (.int x1), some (.int x2), some (.int x3), some (.int (x4 + 1)), some (.int (F46 M ((M 35) (x3 : Int32).toNatClampNeg) x4))]) (st' := []) rfl ?_
            exact Ev.weak [some (.ref 32), some (.int x1), some (.int x2), some (.int x3), some (.int (x4 + 1)), none] (gw_leb_le ⟨rfl, rfl, rfl, rfl, rfl, trivial⟩) H
          · replace H := H.2 hc
            refine Ev.steps 4 (pc' := 110) (L' := [some (.ref 32), some (.int x1), some (.int x2), some (.int x3), some (.int x4), some (.int (F46 M ((M 35) (x3 : Int32).toNatClampNeg) x4))]) (st' := [.int x1, .int (F46 M ((M 35) (x3 : Int32).toNatClampNeg) x4), .ref 33]) rfl ?_
            refine Ev.wr (a := 33) (g := (upd (M 33) ((F46 M ((M 35) (x3 : Int32).toNatClampNeg) x4) : Int32).toNatClampNeg x1)) (i := (F46 M ((M 35) (x3 : Int32).toNatClampNeg) x4)) (n := 64) (pc' := 111) (L' := [some (.ref 32), some (.int x1), some (.int x2), some (.int x3), some (.int x4), some (.int (F46 M ((M 35) (x3 : Int32).toNatClampNeg) x4))]) (st' := []) (by decide) H.1 rfl ?_
            replace H := H.2
            refine Ev.steps 4 (pc' := 118) (L' := [some (.ref 32), some (.int x1), some (.int x2), some (.int x3), some (.int x4), some (.int (F46 M ((M 35) (x3 : Int32).toNatClampNeg) x4))]) (st' := [.int (F46 M ((M 35) (x3 : Int32).toNatClampNeg) x4), .int x2, .ref 35]) rfl ?_
            refine Ev.wr (a := 35) (g := (upd (M 35) (x2 : Int32).toNatClampNeg (F46 M ((M 35) (x3 : Int32).toNatClampNeg) x4))) (i := x2) (n := 64) (pc' := 119) (L' := [some (.ref 32), some (.int x1), some (.int x2), some (.int x3), some (.int x4), some (.int (F46 M ((M 35) (x3 : Int32).toNatClampNeg) x4))]) (st' := []) (by decide) H.1 rfl ?_
            replace H := H.2
            refine Ev.steps 3 (pc' := 32) (L' := [some (.ref 32), some (.int x1), some (.int (x2 + 1)), some (.int x3), some (.int (x4 + 1)), some (.int (F46 M ((M 35) (x3 : Int32).toNatClampNeg) x4))]) (st' := []) rfl ?_
            exact Ev.weak [some (.ref 32), some (.int x1), some (.int (x2 + 1)), some (.int x3), some (.int (x4 + 1)), none] (gw_leb_le ⟨rfl, rfl, rfl, rfl, rfl, trivial⟩) H
      · replace H := H.2 hc
        refine Ev.steps 2 (pc' := 32) (L' := [some (.ref 32), some (.int x1), some (.int x2), some (.int x3), some (.int (x4 + 1)), some (.int (F46 M ((M 35) (x3 : Int32).toNatClampNeg) x4))]) (st' := []) rfl ?_
        exact Ev.weak [some (.ref 32), some (.int x1), some (.int x2), some (.int x3), some (.int (x4 + 1)), none] (gw_leb_le ⟨rfl, rfl, rfl, rfl, rfl, trivial⟩) H

-- 23 GlassWires$Glass canRunOver (I)Z
set_option maxRecDepth 20000 in
theorem w23_0 {E : gw_N} {M : Mem} {res : Option Value × gw_H} {x1 : Int32} (H : Ev 4 23 2 [some (.ref 44), some (.int x1), some (.int 0), none] [] (hs E M) res) : Ev 4 23 0 [some (.ref 44), some (.int x1), none, none] [] (hs E M) res := by
  refine Ev.steps 2 (pc' := 2) (L' := [some (.ref 44), some (.int x1), some (.int 0), none]) (st' := []) rfl ?_
  exact Ev.weak [some (.ref 44), some (.int x1), some (.int 0), none] (gw_leb_le ⟨rfl, rfl, rfl, trivial⟩) H

set_option maxRecDepth 20000 in
theorem w23_2 {E : gw_N} {M : Mem} {res : Option Value × gw_H} {x1 : Int32} {x2 : Int32} (H : ((4 ≤ x2 → res = (some (.int 0), hs E M)) ∧ (¬ 4 ≤ x2 → (P46 M x1 x2 ∧ (((F46 M x1 x2) = (-1) → Ev 4 23 2 [some (.ref 44), some (.int x1), some (.int (x2 + 1)), none] [] (hs E M) res) ∧ (¬ (F46 M x1 x2) = (-1) → (inb (F46 M x1 x2) 64 ∧ (P103 M ∧ (((F103 M) ≤ ((M 49) ((F46 M x1 x2) : Int32).toNatClampNeg) → Ev 4 23 2 [some (.ref 44), some (.int x1), some (.int (x2 + 1)), none] [] (hs E M) res) ∧ (¬ (F103 M) ≤ ((M 49) ((F46 M x1 x2) : Int32).toNatClampNeg) → (P47 M x1 x2 ∧ (P67 M (F47 M x1 x2) ∧ (((F67 M (F47 M x1 x2)) = 0 → res = (some (.int 1), hs E M)) ∧ (¬ (F67 M (F47 M x1 x2)) = 0 → Ev 4 23 2 [some (.ref 44), some (.int x1), some (.int (x2 + 1)), none] [] (hs E M) res)))))))))))))) : Ev 4 23 2 [some (.ref 44), some (.int x1), some (.int x2), none] [] (hs E M) res := by
  refine Ev.steps 3 (pc' := if 4 ≤ x2 then 65 else 7) (L' := [some (.ref 44), some (.int x1), some (.int x2), none]) (st' := []) rfl ?_
  refine Ev_ite (fun hc => ?_) (fun hc => ?_)
  · replace H := H.1 hc
    refine Ev.steps 1 (pc' := 66) (L' := [some (.ref 44), some (.int x1), some (.int x2), none]) (st' := [.int 0]) rfl ?_
    subst H
    exact Ev.ret rfl
  · replace H := H.2 hc
    refine Ev.steps 4 (pc' := 13) (L' := [some (.ref 44), some (.int x1), some (.int x2), none]) (st' := [.int x2, .int x1, .ref 9]) rfl ?_
    refine Ev.call (y := 46) (args := [.ref 9, .int x1, .int x2]) (rest := []) (r := some (.int (F46 M x1 x2))) rfl (s46 H.1) ?_
    replace H := H.2
    show Ev 4 23 16 [some (.ref 44), some (.int x1), some (.int x2), none] [.int (F46 M x1 x2)] _ _
    refine Ev.steps 4 (pc' := if (F46 M x1 x2) = (-1) then 59 else 22) (L' := [some (.ref 44), some (.int x1), some (.int x2), some (.int (F46 M x1 x2))]) (st' := []) rfl ?_
    refine Ev_ite (fun hc => ?_) (fun hc => ?_)
    · replace H := H.1 hc
      refine Ev.steps 2 (pc' := 2) (L' := [some (.ref 44), some (.int x1), some (.int (x2 + 1)), some (.int (F46 M x1 x2))]) (st' := []) rfl ?_
      exact Ev.weak [some (.ref 44), some (.int x1), some (.int (x2 + 1)), none] (gw_leb_le ⟨rfl, rfl, rfl, trivial⟩) H
    · replace H := H.2 hc
      refine Ev.steps 3 (pc' := 27) (L' := [some (.ref 44), some (.int x1), some (.int x2), some (.int (F46 M x1 x2))]) (st' := [.int (F46 M x1 x2), .ref 49]) rfl ?_
      refine Ev.rd (i := (F46 M x1 x2)) (n := 64) (pc' := 28) (L' := [some (.ref 44), some (.int x1), some (.int x2), some (.int (F46 M x1 x2))]) (st' := [.int ((M 49) ((F46 M x1 x2) : Int32).toNatClampNeg)]) H.1 rfl ?_
      replace H := H.2
      refine Ev.steps 2 (pc' := 32) (L' := [some (.ref 44), some (.int x1), some (.int x2), some (.int (F46 M x1 x2))]) (st' := [.ref 40, .int ((M 49) ((F46 M x1 x2) : Int32).toNatClampNeg)]) rfl ?_
      refine Ev.call (y := 103) (args := [.ref 40]) (rest := [.int ((M 49) ((F46 M x1 x2) : Int32).toNatClampNeg)]) (r := some (.int (F103 M))) rfl (s103 H.1) ?_
      replace H := H.2
      show Ev 4 23 35 [some (.ref 44), some (.int x1), some (.int x2), some (.int (F46 M x1 x2))] [.int (F103 M), .int ((M 49) ((F46 M x1 x2) : Int32).toNatClampNeg)] _ _
      refine Ev.steps 1 (pc' := if (F103 M) ≤ ((M 49) ((F46 M x1 x2) : Int32).toNatClampNeg) then 59 else 38) (L' := [some (.ref 44), some (.int x1), some (.int x2), some (.int (F46 M x1 x2))]) (st' := []) rfl ?_
      refine Ev_ite (fun hc => ?_) (fun hc => ?_)
      · replace H := H.1 hc
        refine Ev.steps 2 (pc' := 2) (L' := [some (.ref 44), some (.int x1), some (.int (x2 + 1)), some (.int (F46 M x1 x2))]) (st' := []) rfl ?_
        exact Ev.weak [some (.ref 44), some (.int x1), some (.int (x2 + 1)), none] (gw_leb_le ⟨rfl, rfl, rfl, trivial⟩) H
      · replace H := H.2 hc
        refine Ev.steps 6 (pc' := 48) (L' := [some (.ref 44), some (.int x1), some (.int x2), some (.int (F46 M x1 x2))]) (st' := [.int x2, .int x1, .ref 9, .ref 22]) rfl ?_
        refine Ev.call (y := 47) (args := [.ref 9, .int x1, .int x2]) (rest := [.ref 22]) (r := some (.int (F47 M x1 x2))) rfl (s47 H.1) ?_
        replace H := H.2
        show Ev 4 23 51 [some (.ref 44), some (.int x1), some (.int x2), some (.int (F46 M x1 x2))] [.int (F47 M x1 x2), .ref 22] _ _
        refine Ev.call (y := 67) (args := [.ref 22, .int (F47 M x1 x2)]) (rest := []) (r := some (.int (F67 M (F47 M x1 x2)))) rfl (s67 H.1) ?_
        replace H := H.2
        show Ev 4 23 54 [some (.ref 44), some (.int x1), some (.int x2), some (.int (F46 M x1 x2))] [.int (F67 M (F47 M x1 x2))] _ _
        refine Ev.steps 1 (pc' := if (F67 M (F47 M x1 x2)) = 0 then 57 else 59) (L' := [some (.ref 44), some (.int x1), some (.int x2), some (.int (F46 M x1 x2))]) (st' := []) rfl ?_
        refine Ev_ite (fun hc => ?_) (fun hc => ?_)
        · replace H := H.1 hc
          refine Ev.steps 1 (pc' := 58) (L' := [some (.ref 44), some (.int x1), some (.int x2), some (.int (F46 M x1 x2))]) (st' := [.int 1]) rfl ?_
          subst H
          exact Ev.ret rfl
        · replace H := H.2 hc
          refine Ev.steps 2 (pc' := 2) (L' := [some (.ref 44), some (.int x1), some (.int (x2 + 1)), some (.int (F46 M x1 x2))]) (st' := []) rfl ?_
          exact Ev.weak [some (.ref 44), some (.int x1), some (.int (x2 + 1)), none] (gw_leb_le ⟨rfl, rfl, rfl, trivial⟩) H

-- 29 GlassWires$Glass bleeds (II)Z
set_option maxRecDepth 20000 in
theorem w29_0 {E : gw_N} {M : Mem} {res : Option Value × gw_H} {x1 : Int32} {x2 : Int32} (H : (P46 M x1 x2 ∧ (((F46 M x1 x2) = (-1) → res = (some (.int 0), hs E M)) ∧ (¬ (F46 M x1 x2) = (-1) → (P15 M x1 ∧ (((F15 M x1) = (-1) → res = (some (.int 0), hs E M)) ∧ (¬ (F15 M x1) = (-1) → (P15 M (F46 M x1 x2) ∧ (((F15 M (F46 M x1 x2)) = (-1) → res = (some (.int 0), hs E M)) ∧ (¬ (F15 M (F46 M x1 x2)) = (-1) → (P15 M x1 ∧ (inb (F15 M x1) 768 ∧ (P15 M (F46 M x1 x2) ∧ (inb (F15 M (F46 M x1 x2)) 768 ∧ (P106 M ((M 46) ((F15 M x1) : Int32).toNatClampNeg) ((M 46) ((F15 M (F46 M x1 x2)) : Int32).toNatClampNeg) ∧ (((F106 M ((M 46) ((F15 M x1) : Int32).toNatClampNeg) ((M 46) ((F15 M (F46 M x1 x2)) : Int32).toNatClampNeg)) = 0 → res = (some (.int 0), hs E M)) ∧ (¬ (F106 M ((M 46) ((F15 M x1) : Int32).toNatClampNeg) ((M 46) ((F15 M (F46 M x1 x2)) : Int32).toNatClampNeg)) = 0 → (P47 M x1 x2 ∧ (P68 M (F47 M x1 x2) ∧ (((F68 M (F47 M x1 x2)) = 0 → res = (some (.int 1), hs E M)) ∧ (¬ (F68 M (F47 M x1 x2)) = 0 → res = (some (.int 0), hs E M)))))))))))))))))))))) : Ev 4 29 0 [some (.ref 44), some (.int x1), some (.int x2), none] [] (hs E M) res := by
  refine Ev.steps 4 (pc' := 6) (L' := [some (.ref 44), some (.int x1), some (.int x2), none]) (st' := [.int x2, .int x1, .ref 9]) rfl ?_
  refine Ev.call (y := 46) (args := [.ref 9, .int x1, .int x2]) (rest := []) (r := some (.int (F46 M x1 x2))) rfl (s46 H.1) ?_
  replace H := H.2
  show Ev 4 29 9 [some (.ref 44), some (.int x1), some (.int x2), none] [.int (F46 M x1 x2)] _ _
  refine Ev.steps 4 (pc' := if (F46 M x1 x2) = (-1) then 33 else 15) (L' := [some (.ref 44), some (.int x1), some (.int x2), some (.int (F46 M x1 x2))]) (st' := []) rfl ?_
  refine Ev_ite (fun hc => ?_) (fun hc => ?_)
  · replace H := H.1 hc
    refine Ev.steps 1 (pc' := 34) (L' := [some (.ref 44), some (.int x1), some (.int x2), some (.int (F46 M x1 x2))]) (st' := [.int 0]) rfl ?_
    subst H
    exact Ev.ret rfl
  · replace H := H.2 hc
    refine Ev.steps 2 (pc' := 17) (L' := [some (.ref 44), some (.int x1), some (.int x2), some (.int (F46 M x1 x2))]) (st' := [.int x1, .ref 44]) rfl ?_
    refine Ev.call (y := 15) (args := [.ref 44, .int x1]) (rest := []) (r := some (.int (F15 M x1))) rfl (s15 H.1) ?_
    replace H := H.2
    show Ev 4 29 20 [some (.ref 44), some (.int x1), some (.int x2), some (.int (F46 M x1 x2))] [.int (F15 M x1)] _ _
    refine Ev.steps 2 (pc' := if (F15 M x1) = (-1) then 33 else 24) (L' := [some (.ref 44), some (.int x1), some (.int x2), some (.int (F46 M x1 x2))]) (st' := []) rfl ?_
    refine Ev_ite (fun hc => ?_) (fun hc => ?_)
    · replace H := H.1 hc
      refine Ev.steps 1 (pc' := 34) (L' := [some (.ref 44), some (.int x1), some (.int x2), some (.int (F46 M x1 x2))]) (st' := [.int 0]) rfl ?_
      subst H
      exact Ev.ret rfl
    · replace H := H.2 hc
      refine Ev.steps 2 (pc' := 26) (L' := [some (.ref 44), some (.int x1), some (.int x2), some (.int (F46 M x1 x2))]) (st' := [.int (F46 M x1 x2), .ref 44]) rfl ?_
      refine Ev.call (y := 15) (args := [.ref 44, .int (F46 M x1 x2)]) (rest := []) (r := some (.int (F15 M (F46 M x1 x2)))) rfl (s15 H.1) ?_
      replace H := H.2
      show Ev 4 29 29 [some (.ref 44), some (.int x1), some (.int x2), some (.int (F46 M x1 x2))] [.int (F15 M (F46 M x1 x2))] _ _
      refine Ev.steps 2 (pc' := if (F15 M (F46 M x1 x2)) = (-1) then 33 else 35) (L' := [some (.ref 44), some (.int x1), some (.int x2), some (.int (F46 M x1 x2))]) (st' := []) rfl ?_
      refine Ev_ite (fun hc => ?_) (fun hc => ?_)
      · replace H := H.1 hc
        refine Ev.steps 1 (pc' := 34) (L' := [some (.ref 44), some (.int x1), some (.int x2), some (.int (F46 M x1 x2))]) (st' := [.int 0]) rfl ?_
        subst H
        exact Ev.ret rfl
      · replace H := H.2 hc
        refine Ev.steps 6 (pc' := 45) (L' := [some (.ref 44), some (.int x1), some (.int x2), some (.int (F46 M x1 x2))]) (st' := [.int x1, .ref 44, .ref 46, .ref 40]) rfl ?_
        refine Ev.call (y := 15) (args := [.ref 44, .int x1]) (rest := [.ref 46, .ref 40]) (r := some (.int (F15 M x1))) rfl (s15 H.1) ?_
        replace H := H.2
        show Ev 4 29 48 [some (.ref 44), some (.int x1), some (.int x2), some (.int (F46 M x1 x2))] [.int (F15 M x1), .ref 46, .ref 40] _ _
        refine Ev.rd (i := (F15 M x1)) (n := 768) (pc' := 49) (L' := [some (.ref 44), some (.int x1), some (.int x2), some (.int (F46 M x1 x2))]) (st' := [.int ((M 46) ((F15 M x1) : Int32).toNatClampNeg), .ref 40]) H.1 rfl ?_
        replace H := H.2
        refine Ev.steps 4 (pc' := 55) (L' := [some (.ref 44), some (.int x1), some (.int x2), some (.int (F46 M x1 x2))]) (st' := [.int (F46 M x1 x2), .ref 44, .ref 46, .int ((M 46) ((F15 M x1) : Int32).toNatClampNeg), .ref 40]) rfl ?_
        refine Ev.call (y := 15) (args := [.ref 44, .int (F46 M x1 x2)]) (rest := [.ref 46, .int ((M 46) ((F15 M x1) : Int32).toNatClampNeg), .ref 40]) (r := some (.int (F15 M (F46 M x1 x2)))) rfl (s15 H.1) ?_
        replace H := H.2
        show Ev 4 29 58 [some (.ref 44), some (.int x1), some (.int x2), some (.int (F46 M x1 x2))] [.int (F15 M (F46 M x1 x2)), .ref 46, .int ((M 46) ((F15 M x1) : Int32).toNatClampNeg), .ref 40] _ _
        refine Ev.rd (i := (F15 M (F46 M x1 x2))) (n := 768) (pc' := 59) (L' := [some (.ref 44), some (.int x1), some (.int x2), some (.int (F46 M x1 x2))]) (st' := [.int ((M 46) ((F15 M (F46 M x1 x2)) : Int32).toNatClampNeg), .int ((M 46) ((F15 M x1) : Int32).toNatClampNeg), .ref 40]) H.1 rfl ?_
        replace H := H.2
        refine Ev.call (y := 106) (args := [.ref 40, .int ((M 46) ((F15 M x1) : Int32).toNatClampNeg), .int ((M 46) ((F15 M (F46 M x1 x2)) : Int32).toNatClampNeg)]) (rest := []) (r := some (.int (F106 M ((M 46) ((F15 M x1) : Int32).toNatClampNeg) ((M 46) ((F15 M (F46 M x1 x2)) : Int32).toNatClampNeg)))) rfl (s106 H.1) ?_
        replace H := H.2
        show Ev 4 29 62 [some (.ref 44), some (.int x1), some (.int x2), some (.int (F46 M x1 x2))] [.int (F106 M ((M 46) ((F15 M x1) : Int32).toNatClampNeg) ((M 46) ((F15 M (F46 M x1 x2)) : Int32).toNatClampNeg))] _ _
        refine Ev.steps 1 (pc' := if (F106 M ((M 46) ((F15 M x1) : Int32).toNatClampNeg) ((M 46) ((F15 M (F46 M x1 x2)) : Int32).toNatClampNeg)) = 0 then 88 else 65) (L' := [some (.ref 44), some (.int x1), some (.int x2), some (.int (F46 M x1 x2))]) (st' := []) rfl ?_
        refine Ev_ite (fun hc => ?_) (fun hc => ?_)
        · replace H := H.1 hc
          refine Ev.steps 1 (pc' := 89) (L' := [some (.ref 44), some (.int x1), some (.int x2), some (.int (F46 M x1 x2))]) (st' := [.int 0]) rfl ?_
          subst H
          exact Ev.ret rfl
        · replace H := H.2 hc
          refine Ev.steps 6 (pc' := 75) (L' := [some (.ref 44), some (.int x1), some (.int x2), some (.int (F46 M x1 x2))]) (st' := [.int x2, .int x1, .ref 9, .ref 22]) rfl ?_
          refine Ev.call (y := 47) (args := [.ref 9, .int x1, .int x2]) (rest := [.ref 22]) (r := some (.int (F47 M x1 x2))) rfl (s47 H.1) ?_
          replace H := H.2
          show Ev 4 29 78 [some (.ref 44), some (.int x1), some (.int x2), some (.int (F46 M x1 x2))] [.int (F47 M x1 x2), .ref 22] _ _
          refine Ev.call (y := 68) (args := [.ref 22, .int (F47 M x1 x2)]) (rest := []) (r := some (.int (F68 M (F47 M x1 x2)))) rfl (s68 H.1) ?_
          replace H := H.2
          show Ev 4 29 81 [some (.ref 44), some (.int x1), some (.int x2), some (.int (F46 M x1 x2))] [.int (F68 M (F47 M x1 x2))] _ _
          refine Ev.steps 1 (pc' := if (F68 M (F47 M x1 x2)) = 0 then 84 else 88) (L' := [some (.ref 44), some (.int x1), some (.int x2), some (.int (F46 M x1 x2))]) (st' := []) rfl ?_
          refine Ev_ite (fun hc => ?_) (fun hc => ?_)
          · replace H := H.1 hc
            refine Ev.steps 2 (pc' := 89) (L' := [some (.ref 44), some (.int x1), some (.int x2), some (.int (F46 M x1 x2))]) (st' := [.int 1]) rfl ?_
            subst H
            exact Ev.ret rfl
          · replace H := H.2 hc
            refine Ev.steps 1 (pc' := 89) (L' := [some (.ref 44), some (.int x1), some (.int x2), some (.int (F46 M x1 x2))]) (st' := [.int 0]) rfl ?_
            subst H
            exact Ev.ret rfl

def F29 (M : Mem) (x1 : Int32) (x2 : Int32) : Int32 := (if (F46 M x1 x2) = (-1) then 0 else (if (F15 M x1) = (-1) then 0 else (if (F15 M (F46 M x1 x2)) = (-1) then 0 else (if (F106 M ((M 46) ((F15 M x1) : Int32).toNatClampNeg) ((M 46) ((F15 M (F46 M x1 x2)) : Int32).toNatClampNeg)) = 0 then 0 else (if (F68 M (F47 M x1 x2)) = 0 then 1 else 0)))))
def P29 (M : Mem) (x1 : Int32) (x2 : Int32) : Prop := (P46 M x1 x2 ∧ (((F46 M x1 x2) = (-1) → True) ∧ (¬ (F46 M x1 x2) = (-1) → (P15 M x1 ∧ (((F15 M x1) = (-1) → True) ∧ (¬ (F15 M x1) = (-1) → (P15 M (F46 M x1 x2) ∧ (((F15 M (F46 M x1 x2)) = (-1) → True) ∧ (¬ (F15 M (F46 M x1 x2)) = (-1) → (P15 M x1 ∧ (inb (F15 M x1) 768 ∧ (P15 M (F46 M x1 x2) ∧ (inb (F15 M (F46 M x1 x2)) 768 ∧ (P106 M ((M 46) ((F15 M x1) : Int32).toNatClampNeg) ((M 46) ((F15 M (F46 M x1 x2)) : Int32).toNatClampNeg) ∧ (((F106 M ((M 46) ((F15 M x1) : Int32).toNatClampNeg) ((M 46) ((F15 M (F46 M x1 x2)) : Int32).toNatClampNeg)) = 0 → True) ∧ (¬ (F106 M ((M 46) ((F15 M x1) : Int32).toNatClampNeg) ((M 46) ((F15 M (F46 M x1 x2)) : Int32).toNatClampNeg)) = 0 → (P47 M x1 x2 ∧ (P68 M (F47 M x1 x2)))))))))))))))))))
theorem bb29 {M : Mem} {x1 : Int32} {x2 : Int32} : F29 M x1 x2 &&& 1 = F29 M x1 x2 := by
  unfold F29
  (repeat' split) <;> first | rfl | decide
theorem s29 {E : gw_N} {M : Mem} {x1 : Int32} {x2 : Int32} (H : P29 M x1 x2) : Rn 29 [.ref 44, .int x1, .int x2] (hs E M) (some (.int (F29 M x1 x2))) (hs E M) :=
  w29_0 (⟨H.1, ⟨fun h0 => gw_reteq (if_pos h0), fun h0 => ⟨(H.2.2 h0).1, ⟨fun h1 => gw_reteq ((if_neg h0).trans (if_pos h1)), fun h1 => ⟨((H.2.2 h0).2.2 h1).1, ⟨fun h2 => gw_reteq (((if_neg h0).trans (if_neg h1)).trans (if_pos h2)), fun h2 => ⟨(((H.2.2 h0).2.2 h1).2.2 h2).1, ⟨(((H.2.2 h0).2.2 h1).2.2 h2).2.1, ⟨(((H.2.2 h0).2.2 h1).2.2 h2).2.2.1, ⟨(((H.2.2 h0).2.2 h1).2.2 h2).2.2.2.1, ⟨(((H.2.2 h0).2.2 h1).2.2 h2).2.2.2.2.1, ⟨fun h3 => gw_reteq ((((if_neg h0).trans (if_neg h1)).trans (if_neg h2)).trans (if_pos h3)), fun h3 => ⟨((((H.2.2 h0).2.2 h1).2.2 h2).2.2.2.2.2.2 h3).1, ⟨((((H.2.2 h0).2.2 h1).2.2 h2).2.2.2.2.2.2 h3).2, ⟨fun h4 => gw_reteq (((((if_neg h0).trans (if_neg h1)).trans (if_neg h2)).trans (if_neg h3)).trans (if_pos h4)), fun h4 => gw_reteq (((((if_neg h0).trans (if_neg h1)).trans (if_neg h2)).trans (if_neg h3)).trans (if_neg h4))⟩⟩⟩⟩⟩⟩⟩⟩⟩⟩⟩⟩⟩⟩⟩)
-- 31 GlassWires$Glass harmedCells (II)I
set_option maxRecDepth 20000 in
theorem w31_0 {E : gw_N} {M : Mem} {res : Option Value × gw_H} {x1 : Int32} {x2 : Int32} (H : Ev 4 31 5 [some (.ref 44), some (.int x1), some (.int x2), some (.int 0), some (.int 0)] [] (hs E M) res) : Ev 4 31 0 [some (.ref 44), some (.int x1), some (.int x2), none, none] [] (hs E M) res := by
  refine Ev.steps 4 (pc' := 5) (L' := [some (.ref 44), some (.int x1), some (.int x2), some (.int 0), some (.int 0)]) (st' := []) rfl ?_
  exact Ev.weak [some (.ref 44), some (.int x1), some (.int x2), some (.int 0), some (.int 0)] (gw_leb_le ⟨rfl, rfl, rfl, rfl, rfl, trivial⟩) H

set_option maxRecDepth 20000 in
theorem w31_5 {E : gw_N} {M : Mem} {res : Option Value × gw_H} {x1 : Int32} {x2 : Int32} {x3 : Int32} {x4 : Int32} (H : (((F40 M) ≤ x4 → res = (some (.int x3), hs E M)) ∧ (¬ (F40 M) ≤ x4 → (P5 M x4 ∧ (((F5 M x4) = 0 → Ev 4 31 5 [some (.ref 44), some (.int x1), some (.int x2), some (.int x3), some (.int (x4 + 1))] [] (hs E M) res) ∧ (¬ (F5 M x4) = 0 → ((x4 = x1 → Ev 4 31 5 [some (.ref 44), some (.int x1), some (.int x2), some (.int x3), some (.int (x4 + 1))] [] (hs E M) res) ∧ (¬ x4 = x1 → (∃ (r1 : Int32), Rn 33 [.ref 44, .int x4] (hs E M) (some (.int r1)) (hs E M) ∧ ((x2 ≤ r1 → Ev 4 31 5 [some (.ref 44), some (.int x1), some (.int x2), some (.int (x3 + (F206 M 0))), some (.int (x4 + 1))] [] (hs E M) res) ∧ (¬ x2 ≤ r1 → Ev 4 31 5 [some (.ref 44), some (.int x1), some (.int x2), some (.int (x3 + (F206 M 1))), some (.int (x4 + 1))] [] (hs E M) res))))))))))) : Ev 4 31 5 [some (.ref 44), some (.int x1), some (.int x2), some (.int x3), some (.int x4)] [] (hs E M) res := by
  refine Ev.steps 3 (pc' := 11) (L' := [some (.ref 44), some (.int x1), some (.int x2), some (.int x3), some (.int x4)]) (st' := [.ref 9, .int x4]) rfl ?_
  refine Ev.call (y := 40) (args := [.ref 9]) (rest := [.int x4]) (r := some (.int (F40 M))) rfl (s40) ?_
  show Ev 4 31 14 [some (.ref 44), some (.int x1), some (.int x2), some (.int x3), some (.int x4)] [.int (F40 M), .int x4] _ _
  refine Ev.steps 1 (pc' := if (F40 M) ≤ x4 then 62 else 17) (L' := [some (.ref 44), some (.int x1), some (.int x2), some (.int x3), some (.int x4)]) (st' := []) rfl ?_
  refine Ev_ite (fun hc => ?_) (fun hc => ?_)
  · replace H := H.1 hc
    refine Ev.steps 1 (pc' := 63) (L' := [some (.ref 44), some (.int x1), some (.int x2), some (.int x3), some (.int x4)]) (st' := [.int x3]) rfl ?_
    subst H
    exact Ev.ret rfl
  · replace H := H.2 hc
    refine Ev.steps 3 (pc' := 23) (L' := [some (.ref 44), some (.int x1), some (.int x2), some (.int x3), some (.int x4)]) (st' := [.int x4, .ref 32]) rfl ?_
    refine Ev.call (y := 5) (args := [.ref 32, .int x4]) (rest := []) (r := some (.int (F5 M x4))) rfl (s5 H.1) ?_
    replace H := H.2
    show Ev 4 31 26 [some (.ref 44), some (.int x1), some (.int x2), some (.int x3), some (.int x4)] [.int (F5 M x4)] _ _
    refine Ev.steps 1 (pc' := if (F5 M x4) = 0 then 56 else 29) (L' := [some (.ref 44), some (.int x1), some (.int x2), some (.int x3), some (.int x4)]) (st' := []) rfl ?_
    refine Ev_ite (fun hc => ?_) (fun hc => ?_)
    · replace H := H.1 hc
      refine Ev.steps 2 (pc' := 5) (L' := [some (.ref 44), some (.int x1), some (.int x2), some (.int x3), some (.int (x4 + 1))]) (st' := []) rfl ?_
      exact Ev.weak [some (.ref 44), some (.int x1), some (.int x2), some (.int x3), some (.int (x4 + 1))] (gw_leb_le ⟨rfl, rfl, rfl, rfl, rfl, trivial⟩) H
    · replace H := H.2 hc
      refine Ev.steps 3 (pc' := if x4 = x1 then 56 else 35) (L' := [some (.ref 44), some (.int x1), some (.int x2), some (.int x3), some (.int x4)]) (st' := []) rfl ?_
      refine Ev_ite (fun hc => ?_) (fun hc => ?_)
      · replace H := H.1 hc
        refine Ev.steps 2 (pc' := 5) (L' := [some (.ref 44), some (.int x1), some (.int x2), some (.int x3), some (.int (x4 + 1))]) (st' := []) rfl ?_
        exact Ev.weak [some (.ref 44), some (.int x1), some (.int x2), some (.int x3), some (.int (x4 + 1))] (gw_leb_le ⟨rfl, rfl, rfl, rfl, rfl, trivial⟩) H
      · replace H := H.2 hc
        refine Ev.steps 3 (pc' := 39) (L' := [some (.ref 44), some (.int x1), some (.int x2), some (.int x3), some (.int x4)]) (st' := [.int x4, .ref 44, .int x3]) rfl ?_
        obtain ⟨r1, hr1, H⟩ := H
        refine Ev.call (y := 33) (args := [.ref 44, .int x4]) (rest := [.int x3]) (r := (some (.int r1))) rfl hr1 ?_
        show Ev 4 31 42 [some (.ref 44), some (.int x1), some (.int x2), some (.int x3), some (.int x4)] [.int r1, .int x3] _ _
        refine Ev.steps 2 (pc' := if x2 ≤ r1 then 50 else 46) (L' := [some (.ref 44), some (.int x1), some (.int x2), some (.int x3), some (.int x4)]) (st' := [.int x3]) rfl ?_
        refine Ev_ite (fun hc => ?_) (fun hc => ?_)
        · replace H := H.1 hc
          refine Ev.steps 1 (pc' := 51) (L' := [some (.ref 44), some (.int x1), some (.int x2), some (.int x3), some (.int x4)]) (st' := [.int 0, .int x3]) rfl ?_
          refine Ev.call (y := 206) (args := [.int 0]) (rest := [.int x3]) (r := some (.int (F206 M 0))) rfl (s206) ?_
          show Ev 4 31 54 [some (.ref 44), some (.int x1), some (.int x2), some (.int x3), some (.int x4)] [.int (F206 M 0), .int x3] _ _
          refine Ev.steps 4 (pc' := 5) (L' := [some (.ref 44), some (.int x1), some (.int x2), some (.int (x3 + (F206 M 0))), some (.int (x4 + 1))]) (st' := []) rfl ?_
          exact Ev.weak [some (.ref 44), some (.int x1), some (.int x2), some (.int (x3 + (F206 M 0))), some (.int (x4 + 1))] (gw_leb_le ⟨rfl, rfl, rfl, rfl, rfl, trivial⟩) H
        · replace H := H.2 hc
          refine Ev.steps 2 (pc' := 51) (L' := [some (.ref 44), some (.int x1), some (.int x2), some (.int x3), some (.int x4)]) (st' := [.int 1, .int x3]) rfl ?_
          refine Ev.call (y := 206) (args := [.int 1]) (rest := [.int x3]) (r := some (.int (F206 M 1))) rfl (s206) ?_
          show Ev 4 31 54 [some (.ref 44), some (.int x1), some (.int x2), some (.int x3), some (.int x4)] [.int (F206 M 1), .int x3] _ _
          refine Ev.steps 4 (pc' := 5) (L' := [some (.ref 44), some (.int x1), some (.int x2), some (.int (x3 + (F206 M 1))), some (.int (x4 + 1))]) (st' := []) rfl ?_
          exact Ev.weak [some (.ref 44), some (.int x1), some (.int x2), some (.int (x3 + (F206 M 1))), some (.int (x4 + 1))] (gw_leb_le ⟨rfl, rfl, rfl, rfl, rfl, trivial⟩) H

-- 32 GlassWires$Glass harmlessHeat (I)I
set_option maxRecDepth 20000 in
theorem w32_0 {E : gw_N} {M : Mem} {res : Option Value × gw_H} {x1 : Int32} (H : Ev 4 32 6 [some (.ref 44), some (.int x1), some (.int 999), some (.int 0)] [] (hs E M) res) : Ev 4 32 0 [some (.ref 44), some (.int x1), none, none] [] (hs E M) res := by
  refine Ev.steps 4 (pc' := 6) (L' := [some (.ref 44), some (.int x1), some (.int 999), some (.int 0)]) (st' := []) rfl ?_
  exact Ev.weak [some (.ref 44), some (.int x1), some (.int 999), some (.int 0)] (gw_leb_le ⟨rfl, rfl, rfl, rfl, trivial⟩) H

set_option maxRecDepth 20000 in
theorem w32_6 {E : gw_N} {M : Mem} {res : Option Value × gw_H} {x1 : Int32} {x2 : Int32} {x3 : Int32} (H : (((F40 M) ≤ x3 → res = (some (.int x2), hs E M)) ∧ (¬ (F40 M) ≤ x3 → (P5 M x3 ∧ (((F5 M x3) = 0 → Ev 4 32 6 [some (.ref 44), some (.int x1), some (.int x2), some (.int (x3 + 1))] [] (hs E M) res) ∧ (¬ (F5 M x3) = 0 → ((x3 = x1 → Ev 4 32 6 [some (.ref 44), some (.int x1), some (.int x2), some (.int (x3 + 1))] [] (hs E M) res) ∧ (¬ x3 = x1 → (∃ (r1 : Int32), Rn 33 [.ref 44, .int x3] (hs E M) (some (.int r1)) (hs E M) ∧ Ev 4 32 6 [some (.ref 44), some (.int x1), some (.int (F312 M x2 r1)), some (.int (x3 + 1))] [] (hs E M) res))))))))) : Ev 4 32 6 [some (.ref 44), some (.int x1), some (.int x2), some (.int x3)] [] (hs E M) res := by
  refine Ev.steps 3 (pc' := 11) (L' := [some (.ref 44), some (.int x1), some (.int x2), some (.int x3)]) (st' := [.ref 9, .int x3]) rfl ?_
  refine Ev.call (y := 40) (args := [.ref 9]) (rest := [.int x3]) (r := some (.int (F40 M))) rfl (s40) ?_
  show Ev 4 32 14 [some (.ref 44), some (.int x1), some (.int x2), some (.int x3)] [.int (F40 M), .int x3] _ _
  refine Ev.steps 1 (pc' := if (F40 M) ≤ x3 then 49 else 17) (L' := [some (.ref 44), some (.int x1), some (.int x2), some (.int x3)]) (st' := []) rfl ?_
  refine Ev_ite (fun hc => ?_) (fun hc => ?_)
  · replace H := H.1 hc
    refine Ev.steps 1 (pc' := 50) (L' := [some (.ref 44), some (.int x1), some (.int x2), some (.int x3)]) (st' := [.int x2]) rfl ?_
    subst H
    exact Ev.ret rfl
  · replace H := H.2 hc
    refine Ev.steps 3 (pc' := 22) (L' := [some (.ref 44), some (.int x1), some (.int x2), some (.int x3)]) (st' := [.int x3, .ref 32]) rfl ?_
    refine Ev.call (y := 5) (args := [.ref 32, .int x3]) (rest := []) (r := some (.int (F5 M x3))) rfl (s5 H.1) ?_
    replace H := H.2
    show Ev 4 32 25 [some (.ref 44), some (.int x1), some (.int x2), some (.int x3)] [.int (F5 M x3)] _ _
    refine Ev.steps 1 (pc' := if (F5 M x3) = 0 then 43 else 28) (L' := [some (.ref 44), some (.int x1), some (.int x2), some (.int x3)]) (st' := []) rfl ?_
    refine Ev_ite (fun hc => ?_) (fun hc => ?_)
    · replace H := H.1 hc
      refine Ev.steps 2 (pc' := 6) (L' := [some (.ref 44), some (.int x1), some (.int x2), some (.int (x3 + 1))]) (st' := []) rfl ?_
      exact Ev.weak [some (.ref 44), some (.int x1), some (.int x2), some (.int (x3 + 1))] (gw_leb_le ⟨rfl, rfl, rfl, rfl, trivial⟩) H
    · replace H := H.2 hc
      refine Ev.steps 3 (pc' := if x3 = x1 then 43 else 33) (L' := [some (.ref 44), some (.int x1), some (.int x2), some (.int x3)]) (st' := []) rfl ?_
      refine Ev_ite (fun hc => ?_) (fun hc => ?_)
      · replace H := H.1 hc
        refine Ev.steps 2 (pc' := 6) (L' := [some (.ref 44), some (.int x1), some (.int x2), some (.int (x3 + 1))]) (st' := []) rfl ?_
        exact Ev.weak [some (.ref 44), some (.int x1), some (.int x2), some (.int (x3 + 1))] (gw_leb_le ⟨rfl, rfl, rfl, rfl, trivial⟩) H
      · replace H := H.2 hc
        refine Ev.steps 3 (pc' := 36) (L' := [some (.ref 44), some (.int x1), some (.int x2), some (.int x3)]) (st' := [.int x3, .ref 44, .int x2]) rfl ?_
        obtain ⟨r1, hr1, H⟩ := H
        refine Ev.call (y := 33) (args := [.ref 44, .int x3]) (rest := [.int x2]) (r := (some (.int r1))) rfl hr1 ?_
        show Ev 4 32 39 [some (.ref 44), some (.int x1), some (.int x2), some (.int x3)] [.int r1, .int x2] _ _
        refine Ev.call (y := 312) (args := [.int x2, .int r1]) (rest := []) (r := some (.int (F312 M x2 r1))) rfl (s312) ?_
        show Ev 4 32 42 [some (.ref 44), some (.int x1), some (.int x2), some (.int x3)] [.int (F312 M x2 r1)] _ _
        refine Ev.steps 3 (pc' := 6) (L' := [some (.ref 44), some (.int x1), some (.int (F312 M x2 r1)), some (.int (x3 + 1))]) (st' := []) rfl ?_
        exact Ev.weak [some (.ref 44), some (.int x1), some (.int (F312 M x2 r1)), some (.int (x3 + 1))] (gw_leb_le ⟨rfl, rfl, rfl, rfl, trivial⟩) H

-- 57 GlassWires$Net read ()V
set_option maxRecDepth 20000 in
theorem w57_0 {E : gw_N} {M : Mem} {res : Option Value × gw_H}  (H : (∃ (M1 : Mem), Rn 313 [.ref 23, .int 0] (hs E M) none (hs E M1) ∧ (∃ (M2 : Mem), Rn 313 [.ref 24, .int 0] (hs E M1) none (hs E M2) ∧ (∃ (M3 : Mem), Rn 313 [.ref 25, .int 0] (hs E M2) none (hs E M3) ∧ (∃ (M4 : Mem), Rn 313 [.ref 26, .int (-1)] (hs E M3) none (hs E M4) ∧ (∃ (M5 : Mem), Rn 313 [.ref 27, .int (-1)] (hs E M4) none (hs E M5) ∧ Ev 4 57 42 [some (.ref 22), some (.int 0)] [] (hs E M5) res)))))) : Ev 4 57 0 [some (.ref 22), none] [] (hs E M) res := by
  refine Ev.steps 3 (pc' := 5) (L' := [some (.ref 22), none]) (st' := [.int 0, .ref 23]) rfl ?_
  obtain ⟨M1, hr1, H⟩ := H
  refine Ev.call (y := 313) (args := [.ref 23, .int 0]) (rest := []) (r := none) rfl hr1 ?_
  show Ev 4 57 8 [some (.ref 22), none] [] _ _
  refine Ev.steps 3 (pc' := 13) (L' := [some (.ref 22), none]) (st' := [.int 0, .ref 24]) rfl ?_
  obtain ⟨M2, hr2, H⟩ := H
  refine Ev.call (y := 313) (args := [.ref 24, .int 0]) (rest := []) (r := none) rfl hr2 ?_
  show Ev 4 57 16 [some (.ref 22), none] [] _ _
  refine Ev.steps 3 (pc' := 21) (L' := [some (.ref 22), none]) (st' := [.int 0, .ref 25]) rfl ?_
  obtain ⟨M3, hr3, H⟩ := H
  refine Ev.call (y := 313) (args := [.ref 25, .int 0]) (rest := []) (r := none) rfl hr3 ?_
  show Ev 4 57 24 [some (.ref 22), none] [] _ _
  refine Ev.steps 3 (pc' := 29) (L' := [some (.ref 22), none]) (st' := [.int (-1), .ref 26]) rfl ?_
  obtain ⟨M4, hr4, H⟩ := H
  refine Ev.call (y := 313) (args := [.ref 26, .int (-1)]) (rest := []) (r := none) rfl hr4 ?_
  show Ev 4 57 32 [some (.ref 22), none] [] _ _
  refine Ev.steps 3 (pc' := 37) (L' := [some (.ref 22), none]) (st' := [.int (-1), .ref 27]) rfl ?_
  obtain ⟨M5, hr5, H⟩ := H
  refine Ev.call (y := 313) (args := [.ref 27, .int (-1)]) (rest := []) (r := none) rfl hr5 ?_
  show Ev 4 57 40 [some (.ref 22), none] [] _ _
  refine Ev.steps 2 (pc' := 42) (L' := [some (.ref 22), some (.int 0)]) (st' := []) rfl ?_
  exact Ev.weak [some (.ref 22), some (.int 0)] (gw_leb_le ⟨rfl, rfl, trivial⟩) H

set_option maxRecDepth 20000 in
theorem w57_42 {E : gw_N} {M : Mem} {res : Option Value × gw_H} {x1 : Int32} (H : (((F143 M) ≤ x1 → (∃ (M1 : Mem), Rn 61 [.ref 22] (hs E M) none (hs E M1) ∧ res = (none, hs E M1))) ∧ (¬ (F143 M) ≤ x1 → (P145 M x1 ∧ (((F145 M x1) = 0 → Ev 4 57 42 [some (.ref 22), some (.int (x1 + 1))] [] (hs E M) res) ∧ (¬ (F145 M x1) = 0 → (∃ (M2 : Mem), Rn 58 [.ref 22, .int x1] (hs E M) none (hs E M2) ∧ Ev 4 57 42 [some (.ref 22), some (.int (x1 + 1))] [] (hs E M2) res))))))) : Ev 4 57 42 [some (.ref 22), some (.int x1)] [] (hs E M) res := by
  refine Ev.steps 3 (pc' := 47) (L' := [some (.ref 22), some (.int x1)]) (st' := [.ref 14, .int x1]) rfl ?_
  refine Ev.call (y := 143) (args := [.ref 14]) (rest := [.int x1]) (r := some (.int (F143 M))) rfl (s143) ?_
  show Ev 4 57 50 [some (.ref 22), some (.int x1)] [.int (F143 M), .int x1] _ _
  refine Ev.steps 1 (pc' := if (F143 M) ≤ x1 then 75 else 53) (L' := [some (.ref 22), some (.int x1)]) (st' := []) rfl ?_
  refine Ev_ite (fun hc => ?_) (fun hc => ?_)
  · replace H := H.1 hc
    refine Ev.steps 1 (pc' := 76) (L' := [some (.ref 22), some (.int x1)]) (st' := [.ref 22]) rfl ?_
    obtain ⟨M1, hr1, H⟩ := H
    refine Ev.call (y := 61) (args := [.ref 22]) (rest := []) (r := none) rfl hr1 ?_
    show Ev 4 57 79 [some (.ref 22), some (.int x1)] [] _ _
    subst H
    exact Ev.ret rfl
  · replace H := H.2 hc
    refine Ev.steps 3 (pc' := 58) (L' := [some (.ref 22), some (.int x1)]) (st' := [.int x1, .ref 14]) rfl ?_
    refine Ev.call (y := 145) (args := [.ref 14, .int x1]) (rest := []) (r := some (.int (F145 M x1))) rfl (s145 H.1) ?_
    replace H := H.2
    show Ev 4 57 61 [some (.ref 22), some (.int x1)] [.int (F145 M x1)] _ _
    refine Ev.steps 1 (pc' := if (F145 M x1) = 0 then 69 else 64) (L' := [some (.ref 22), some (.int x1)]) (st' := []) rfl ?_
    refine Ev_ite (fun hc => ?_) (fun hc => ?_)
    · replace H := H.1 hc
      refine Ev.steps 2 (pc' := 42) (L' := [some (.ref 22), some (.int (x1 + 1))]) (st' := []) rfl ?_
      exact Ev.weak [some (.ref 22), some (.int (x1 + 1))] (gw_leb_le ⟨rfl, rfl, trivial⟩) H
    · replace H := H.2 hc
      refine Ev.steps 2 (pc' := 66) (L' := [some (.ref 22), some (.int x1)]) (st' := [.int x1, .ref 22]) rfl ?_
      obtain ⟨M2, hr2, H⟩ := H
      refine Ev.call (y := 58) (args := [.ref 22, .int x1]) (rest := []) (r := none) rfl hr2 ?_
      show Ev 4 57 69 [some (.ref 22), some (.int x1)] [] _ _
      refine Ev.steps 2 (pc' := 42) (L' := [some (.ref 22), some (.int (x1 + 1))]) (st' := []) rfl ?_
      exact Ev.weak [some (.ref 22), some (.int (x1 + 1))] (gw_leb_le ⟨rfl, rfl, trivial⟩) H

-- 74 GlassWires$Net isCovered (III)Z
set_option maxRecDepth 20000 in
theorem w74_0 {E : gw_N} {M : Mem} {res : Option Value × gw_H} {x1 : Int32} {x2 : Int32} {x3 : Int32} (H : (((F41 M (x1 + (F53 M x3)) (x2 + (F54 M x3))) = 0 → res = (some (.int 0), hs E M)) ∧ (¬ (F41 M (x1 + (F53 M x3)) (x2 + (F54 M x3))) = 0 → (inb (F52 M x1 x2 x3) 178 ∧ ((((M 23) ((F52 M x1 x2 x3) : Int32).toNatClampNeg) ≤ 0 → res = (some (.int 0), hs E M)) ∧ (¬ ((M 23) ((F52 M x1 x2 x3) : Int32).toNatClampNeg) ≤ 0 → res = (some (.int 1), hs E M))))))) : Ev 4 74 0 [some (.ref 22), some (.int x1), some (.int x2), some (.int x3)] [] (hs E M) res := by
  refine Ev.steps 4 (pc' := 6) (L' := [some (.ref 22), some (.int x1), some (.int x2), some (.int x3)]) (st' := [.int x3, .int x1, .ref 9]) rfl ?_
  refine Ev.call (y := 53) (args := [.int x3]) (rest := [.int x1, .ref 9]) (r := some (.int (F53 M x3))) rfl (s53) ?_
  show Ev 4 74 9 [some (.ref 22), some (.int x1), some (.int x2), some (.int x3)] [.int (F53 M x3), .int x1, .ref 9] _ _
  refine Ev.steps 3 (pc' := 12) (L' := [some (.ref 22), some (.int x1), some (.int x2), some (.int x3)]) (st' := [.int x3, .int x2, .int (x1 + (F53 M x3)), .ref 9]) rfl ?_
  refine Ev.call (y := 54) (args := [.int x3]) (rest := [.int x2, .int (x1 + (F53 M x3)), .ref 9]) (r := some (.int (F54 M x3))) rfl (s54) ?_
  show Ev 4 74 15 [some (.ref 22), some (.int x1), some (.int x2), some (.int x3)] [.int (F54 M x3), .int x2, .int (x1 + (F53 M x3)), .ref 9] _ _
  refine Ev.steps 1 (pc' := 16) (L' := [some (.ref 22), some (.int x1), some (.int x2), some (.int x3)]) (st' := [.int (x2 + (F54 M x3)), .int (x1 + (F53 M x3)), .ref 9]) rfl ?_
  refine Ev.call (y := 41) (args := [.ref 9, .int (x1 + (F53 M x3)), .int (x2 + (F54 M x3))]) (rest := []) (r := some (.int (F41 M (x1 + (F53 M x3)) (x2 + (F54 M x3))))) rfl (s41) ?_
  show Ev 4 74 19 [some (.ref 22), some (.int x1), some (.int x2), some (.int x3)] [.int (F41 M (x1 + (F53 M x3)) (x2 + (F54 M x3)))] _ _
  refine Ev.steps 1 (pc' := if (F41 M (x1 + (F53 M x3)) (x2 + (F54 M x3))) = 0 then 40 else 22) (L' := [some (.ref 22), some (.int x1), some (.int x2), some (.int x3)]) (st' := []) rfl ?_
  refine Ev_ite (fun hc => ?_) (fun hc => ?_)
  · replace H := H.1 hc
    refine Ev.steps 1 (pc' := 41) (L' := [some (.ref 22), some (.int x1), some (.int x2), some (.int x3)]) (st' := [.int 0]) rfl ?_
    subst H
    exact Ev.ret rfl
  · replace H := H.2 hc
    refine Ev.steps 5 (pc' := 29) (L' := [some (.ref 22), some (.int x1), some (.int x2), some (.int x3)]) (st' := [.int x3, .int x2, .int x1, .ref 23]) rfl ?_
    refine Ev.call (y := 52) (args := [.int x1, .int x2, .int x3]) (rest := [.ref 23]) (r := some (.int (F52 M x1 x2 x3))) rfl (s52) ?_
    show Ev 4 74 32 [some (.ref 22), some (.int x1), some (.int x2), some (.int x3)] [.int (F52 M x1 x2 x3), .ref 23] _ _
    refine Ev.rd (i := (F52 M x1 x2 x3)) (n := 178) (pc' := 33) (L' := [some (.ref 22), some (.int x1), some (.int x2), some (.int x3)]) (st' := [.int ((M 23) ((F52 M x1 x2 x3) : Int32).toNatClampNeg)]) H.1 rfl ?_
    replace H := H.2
    refine Ev.steps 1 (pc' := if ((M 23) ((F52 M x1 x2 x3) : Int32).toNatClampNeg) ≤ 0 then 40 else 36) (L' := [some (.ref 22), some (.int x1), some (.int x2), some (.int x3)]) (st' := []) rfl ?_
    refine Ev_ite (fun hc => ?_) (fun hc => ?_)
    · replace H := H.1 hc
      refine Ev.steps 1 (pc' := 41) (L' := [some (.ref 22), some (.int x1), some (.int x2), some (.int x3)]) (st' := [.int 0]) rfl ?_
      subst H
      exact Ev.ret rfl
    · replace H := H.2 hc
      refine Ev.steps 2 (pc' := 41) (L' := [some (.ref 22), some (.int x1), some (.int x2), some (.int x3)]) (st' := [.int 1]) rfl ?_
      subst H
      exact Ev.ret rfl

def F74 (M : Mem) (x1 : Int32) (x2 : Int32) (x3 : Int32) : Int32 := (if (F41 M (x1 + (F53 M x3)) (x2 + (F54 M x3))) = 0 then 0 else (if ((M 23) ((F52 M x1 x2 x3) : Int32).toNatClampNeg) ≤ 0 then 0 else 1))
def P74 (M : Mem) (x1 : Int32) (x2 : Int32) (x3 : Int32) : Prop := (((F41 M (x1 + (F53 M x3)) (x2 + (F54 M x3))) = 0 → True) ∧ (¬ (F41 M (x1 + (F53 M x3)) (x2 + (F54 M x3))) = 0 → (inb (F52 M x1 x2 x3) 178)))
theorem bb74 {M : Mem} {x1 : Int32} {x2 : Int32} {x3 : Int32} : F74 M x1 x2 x3 &&& 1 = F74 M x1 x2 x3 := by
  unfold F74
  (repeat' split) <;> first | rfl | decide
theorem s74 {E : gw_N} {M : Mem} {x1 : Int32} {x2 : Int32} {x3 : Int32} (H : P74 M x1 x2 x3) : Rn 74 [.ref 22, .int x1, .int x2, .int x3] (hs E M) (some (.int (F74 M x1 x2 x3))) (hs E M) :=
  w74_0 (⟨fun h0 => gw_reteq (if_pos h0), fun h0 => ⟨(H.2 h0), ⟨fun h1 => gw_reteq ((if_neg h0).trans (if_pos h1)), fun h1 => gw_reteq ((if_neg h0).trans (if_neg h1))⟩⟩⟩)
