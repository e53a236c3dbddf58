/-! by program (wp.py): formulas that are enough -/
-- 273 GlassWiresModel fire (I)I
set_option maxRecDepth 20000 in
theorem w273_0 {E : gw_N} {M : Mem} {res : Option Value × gw_H} {x1 : Int32} (H : (((F209 M (Int32.toInt64 x1) 1 999) = 0 → res = (some (.int (-102)), hs E M)) ∧ (¬ (F209 M (Int32.toInt64 x1) 1 999) = 0 → Ev 5 273 19 [some (.ref 59), some (.int x1), some (.int 0), some (.int 0), none, none, none] [] (hs E M) res))) : Ev 5 273 0 [some (.ref 59), some (.int x1), none, none, none, none, none] [] (hs E M) res := by
  refine Ev.steps 4 (pc' := 6) (L' := [some (.ref 59), some (.int x1), none, none, none, none, none]) (st' := [.long 999, .long 1, .long (Int32.toInt64 x1)]) rfl ?_
  refine Ev.call (y := 209) (args := [.long (Int32.toInt64 x1), .long 1, .long 999]) (rest := []) (r := some (.int (F209 M (Int32.toInt64 x1) 1 999))) rfl (s209) ?_
  show Ev 5 273 9 [some (.ref 59), some (.int x1), none, none, none, none, none] [.int (F209 M (Int32.toInt64 x1) 1 999)] _ _
  refine Ev.steps 1 (pc' := if (F209 M (Int32.toInt64 x1) 1 999) = 0 then 12 else 15) (L' := [some (.ref 59), some (.int x1), none, none, none, none, none]) (st' := []) rfl ?_
  refine Ev_ite (fun hc => ?_) (fun hc => ?_)
  · replace H := H.1 hc
    refine Ev.steps 1 (pc' := 14) (L' := [some (.ref 59), some (.int x1), none, none, none, none, none]) (st' := [.int (-102)]) rfl ?_
    subst H
    exact Ev.ret rfl
  · replace H := H.2 hc
    refine Ev.steps 4 (pc' := 19) (L' := [some (.ref 59), some (.int x1), some (.int 0), some (.int 0), none, none, none]) (st' := []) rfl ?_
    exact Ev.weak [some (.ref 59), some (.int x1), some (.int 0), some (.int 0), none, none, none] (gw_leb_le ⟨rfl, rfl, rfl, rfl, trivial⟩) H

set_option maxRecDepth 20000 in
theorem w273_19 {E : gw_N} {M : Mem} {res : Option Value × gw_H} {x1 : Int32} {x2 : Int32} {x3 : Int32} (H : (((F243 M) ≤ x3 → (∃ (M1 : Mem), Rn 271 [.ref 59] (hs E M) none (hs E M1) ∧ res = (some (.int x2), hs E (up M1 59 (upd (M1 59) 29 (((M1 59) 29) + 1)))))) ∧ (¬ (F243 M) ≤ x3 → Ev 5 273 30 [some (.ref 59), some (.int x1), some (.int x2), some (.int x3), some (.int 0), none, none] [] (hs E M) res))) : Ev 5 273 19 [some (.ref 59), some (.int x1), some (.int x2), some (.int x3), none, none, none] [] (hs E M) res := by
  refine Ev.steps 2 (pc' := 21) (L' := [some (.ref 59), some (.int x1), some (.int x2), some (.int x3), none, none, none]) (st' := [.ref 59, .int x3]) rfl ?_
  refine Ev.call (y := 243) (args := [.ref 59]) (rest := [.int x3]) (r := some (.int (F243 M))) rfl (s243) ?_
  show Ev 5 273 24 [some (.ref 59), some (.int x1), some (.int x2), some (.int x3), none, none, none] [.int (F243 M), .int x3] _ _
  refine Ev.steps 1 (pc' := if (F243 M) ≤ x3 then 164 else 27) (L' := [some (.ref 59), some (.int x1), some (.int x2), some (.int x3), none, none, none]) (st' := []) rfl ?_
  refine Ev_ite (fun hc => ?_) (fun hc => ?_)
  · replace H := H.1 hc
    refine Ev.steps 1 (pc' := 165) (L' := [some (.ref 59), some (.int x1), some (.int x2), some (.int x3), none, none, none]) (st' := [.ref 59]) rfl ?_
    obtain ⟨M1, hr1, H⟩ := H
    refine Ev.call (y := 271) (args := [.ref 59]) (rest := []) (r := none) rfl hr1 ?_
    show Ev 5 273 168 [some (.ref 59), some (.int x1), some (.int x2), some (.int x3), none, none, none] [] _ _
    refine Ev.steps 5 (pc' := 175) (L' := [some (.ref 59), some (.int x1), some (.int x2), some (.int x3), none, none, none]) (st' := [.int (((M1 59) 29) + 1), .ref 59]) rfl ?_
    refine Ev.mem (a := 59) (g := (upd (M1 59) 29 (((M1 59) 29) + 1))) (pc' := 178) (L' := [some (.ref 59), some (.int x1), some (.int x2), some (.int x3), none, none, none]) (st' := []) (by decide) rfl ?_
    refine Ev.steps 1 (pc' := 179) (L' := [some (.ref 59), some (.int x1), some (.int x2), some (.int x3), none, none, none]) (st' := [.int x2]) rfl ?_
    subst H
    exact Ev.ret rfl
  · replace H := H.2 hc
    refine Ev.steps 2 (pc' := 30) (L' := [some (.ref 59), some (.int x1), some (.int x2), some (.int x3), some (.int 0), none, none]) (st' := []) rfl ?_
    exact Ev.weak [some (.ref 59), some (.int x1), some (.int x2), some (.int x3), some (.int 0), none, none] (gw_leb_le ⟨rfl, rfl, rfl, rfl, rfl, trivial⟩) H

set_option maxRecDepth 20000 in
theorem w273_30 {E : gw_N} {M : Mem} {res : Option Value × gw_H} {x1 : Int32} {x2 : Int32} {x3 : Int32} {x4 : Int32} (H : (inb x3 64 ∧ ((((M 77) (x3 : Int32).toNatClampNeg) ≤ x4 → Ev 5 273 19 [some (.ref 59), some (.int x1), some (.int x2), some (.int (x3 + 1)), none, none, none] [] (hs E M) res) ∧ (¬ ((M 77) (x3 : Int32).toNatClampNeg) ≤ x4 → (inb ((12 * x3) + x4) 768 ∧ (inb ((12 * x3) + x4) 768 ∧ ((((M 80) (((12 * x3) + x4) : Int32).toNatClampNeg) = 0 → (inb ((M 78) (((12 * x3) + x4) : Int32).toNatClampNeg) 8 ∧ ((x1 < ((M 73) (((M 78) (((12 * x3) + x4) : Int32).toNatClampNeg) : Int32).toNatClampNeg) → (inb ((12 * x3) + x4) 768 ∧ ((((M 80) (((12 * x3) + x4) : Int32).toNatClampNeg) = 1 → (inb ((M 78) (((12 * x3) + x4) : Int32).toNatClampNeg) 8 ∧ ((x1 ≤ (((M 73) (((M 78) (((12 * x3) + x4) : Int32).toNatClampNeg) : Int32).toNatClampNeg) + 50) → Ev 5 273 30 [some (.ref 59), some (.int x1), some (.int x2), some (.int x3), some (.int (x4 + 1)), none, none] [] (hs E M) res) ∧ (¬ x1 ≤ (((M 73) (((M 78) (((12 * x3) + x4) : Int32).toNatClampNeg) : Int32).toNatClampNeg) + 50) → (inb ((12 * x3) + x4) 768 ∧ Ev 5 273 30 [some (.ref 59), some (.int x1), some (.int x2), some (.int x3), some (.int (x4 + 1)), none, none] [] (hs E (up M 80 (upd (M 80) (((12 * x3) + x4) : Int32).toNatClampNeg 2))) res))))) ∧ (¬ ((M 80) (((12 * x3) + x4) : Int32).toNatClampNeg) = 1 → Ev 5 273 30 [some (.ref 59), some (.int x1), some (.int x2), some (.int x3), some (.int (x4 + 1)), none, none] [] (hs E M) res)))) ∧ (¬ x1 < ((M 73) (((M 78) (((12 * x3) + x4) : Int32).toNatClampNeg) : Int32).toNatClampNeg) → (inb ((12 * x3) + x4) 768 ∧ (inb ((12 * x3) + x4) 768 ∧ (inb ((12 * x3) + x4) 768 ∧ (inb ((M 78) (((12 * x3) + x4) : Int32).toNatClampNeg) 8 ∧ (inb ((12 * x3) + x4) 768 ∧ (inb ((12 * x3) + x4) 768 ∧ ((((upd (M 80) (((12 * x3) + x4) : Int32).toNatClampNeg 1) (((12 * x3) + x4) : Int32).toNatClampNeg) = 1 → (inb ((M 78) (((12 * x3) + x4) : Int32).toNatClampNeg) 8 ∧ ((x1 ≤ (((M 73) (((M 78) (((12 * x3) + x4) : Int32).toNatClampNeg) : Int32).toNatClampNeg) + 50) → Ev 5 273 30 [some (.ref 59), some (.int x1), some (.int (x2 + 1)), some (.int x3), some (.int (x4 + 1)), none, none] [] (hs E (up (up M 80 (upd (M 80) (((12 * x3) + x4) : Int32).toNatClampNeg 1)) 79 (upd (M 79) (((12 * x3) + x4) : Int32).toNatClampNeg (((M 79) (((12 * x3) + x4) : Int32).toNatClampNeg) - ((((M 79) (((12 * x3) + x4) : Int32).toNatClampNeg) * ((M 74) (((M 78) (((12 * x3) + x4) : Int32).toNatClampNeg) : Int32).toNatClampNeg)) / 10))))) res) ∧ (¬ x1 ≤ (((M 73) (((M 78) (((12 * x3) + x4) : Int32).toNatClampNeg) : Int32).toNatClampNeg) + 50) → (inb ((12 * x3) + x4) 768 ∧ Ev 5 273 30 [some (.ref 59), some (.int x1), some (.int (x2 + 1)), some (.int x3), some (.int (x4 + 1)), none, none] [] (hs E (up (up M 80 (upd (upd (M 80) (((12 * x3) + x4) : Int32).toNatClampNeg 1) (((12 * x3) + x4) : Int32).toNatClampNeg 2)) 79 (upd (M 79) (((12 * x3) + x4) : Int32).toNatClampNeg (((M 79) (((12 * x3) + x4) : Int32).toNatClampNeg) - ((((M 79) (((12 * x3) + x4) : Int32).toNatClampNeg) * ((M 74) (((M 78) (((12 * x3) + x4) : Int32).toNatClampNeg) : Int32).toNatClampNeg)) / 10))))) res))))) ∧ (¬ ((upd (M 80) (((12 * x3) + x4) : Int32).toNatClampNeg 1) (((12 * x3) + x4) : Int32).toNatClampNeg) = 1 → Ev 5 273 30 [some (.ref 59), some (.int x1), some (.int (x2 + 1)), some (.int x3), some (.int (x4 + 1)), none, none] [] (hs E (up (up M 80 (upd (M 80) (((12 * x3) + x4) : Int32).toNatClampNeg 1)) 79 (upd (M 79) (((12 * x3) + x4) : Int32).toNatClampNeg (((M 79) (((12 * x3) + x4) : Int32).toNatClampNeg) - ((((M 79) (((12 * x3) + x4) : Int32).toNatClampNeg) * ((M 74) (((M 78) (((12 * x3) + x4) : Int32).toNatClampNeg) : Int32).toNatClampNeg)) / 10))))) res)))))))))))) ∧ (¬ ((M 80) (((12 * x3) + x4) : Int32).toNatClampNeg) = 0 → (inb ((12 * x3) + x4) 768 ∧ ((((M 80) (((12 * x3) + x4) : Int32).toNatClampNeg) = 1 → (inb ((M 78) (((12 * x3) + x4) : Int32).toNatClampNeg) 8 ∧ ((x1 ≤ (((M 73) (((M 78) (((12 * x3) + x4) : Int32).toNatClampNeg) : Int32).toNatClampNeg) + 50) → Ev 5 273 30 [some (.ref 59), some (.int x1), some (.int x2), some (.int x3), some (.int (x4 + 1)), none, none] [] (hs E M) res) ∧ (¬ x1 ≤ (((M 73) (((M 78) (((12 * x3) + x4) : Int32).toNatClampNeg) : Int32).toNatClampNeg) + 50) → (inb ((12 * x3) + x4) 768 ∧ Ev 5 273 30 [some (.ref 59), some (.int x1), some (.int x2), some (.int x3), some (.int (x4 + 1)), none, none] [] (hs E (up M 80 (upd (M 80) (((12 * x3) + x4) : Int32).toNatClampNeg 2))) res))))) ∧ (¬ ((M 80) (((12 * x3) + x4) : Int32).toNatClampNeg) = 1 → Ev 5 273 30 [some (.ref 59), some (.int x1), some (.int x2), some (.int x3), some (.int (x4 + 1)), none, none] [] (hs E M) res))))))))))) : Ev 5 273 30 [some (.ref 59), some (.int x1), some (.int x2), some (.int x3), some (.int x4), none, none] [] (hs E M) res := by
  refine Ev.steps 4 (pc' := 37) (L' := [some (.ref 59), some (.int x1), some (.int x2), some (.int x3), some (.int x4), none, none]) (st' := [.int x3, .ref 77, .int x4]) rfl ?_
  refine Ev.rd (i := x3) (n := 64) (pc' := 38) (L' := [some (.ref 59), some (.int x1), some (.int x2), some (.int x3), some (.int x4), none, none]) (st' := [.int ((M 77) (x3 : Int32).toNatClampNeg), .int x4]) H.1 rfl ?_
  replace H := H.2
  refine Ev.steps 1 (pc' := if ((M 77) (x3 : Int32).toNatClampNeg) ≤ x4 then 158 else 41) (L' := [some (.ref 59), some (.int x1), some (.int x2), some (.int x3), some (.int x4), none, none]) (st' := []) rfl ?_
  refine Ev_ite (fun hc => ?_) (fun hc => ?_)
  · replace H := H.1 hc
    refine Ev.steps 2 (pc' := 19) (L' := [some (.ref 59), some (.int x1), some (.int x2), some (.int (x3 + 1)), some (.int x4), none, none]) (st' := []) rfl ?_
    exact Ev.weak [some (.ref 59), some (.int x1), some (.int x2), some (.int (x3 + 1)), none, none, none] (gw_leb_le ⟨rfl, rfl, rfl, rfl, trivial⟩) H
  · replace H := H.2 hc
    refine Ev.steps 9 (pc' := 56) (L' := [some (.ref 59), some (.int x1), some (.int x2), some (.int x3), some (.int x4), some (.int ((12 * x3) + x4)), none]) (st' := [.int ((12 * x3) + x4), .ref 78]) rfl ?_
    refine Ev.rd (i := ((12 * x3) + x4)) (n := 768) (pc' := 57) (L' := [some (.ref 59), some (.int x1), some (.int x2), some (.int x3), some (.int x4), some (.int ((12 * x3) + x4)), none]) (st' := [.int ((M 78) (((12 * x3) + x4) : Int32).toNatClampNeg)]) H.1 rfl ?_
    replace H := H.2
    refine Ev.steps 4 (pc' := 65) (L' := [some (.ref 59), some (.int x1), some (.int x2), some (.int x3), some (.int x4), some (.int ((12 * x3) + x4)), some (.int ((M 78) (((12 * x3) + x4) : Int32).toNatClampNeg))]) (st' := [.int ((12 * x3) + x4), .ref 80]) rfl ?_
    refine Ev.rd (i := ((12 * x3) + x4)) (n := 768) (pc' := 66) (L' := [some (.ref 59), some (.int x1), some (.int x2), some (.int x3), some (.int x4), some (.int ((12 * x3) + x4)), some (.int ((M 78) (((12 * x3) + x4) : Int32).toNatClampNeg))]) (st' := [.int ((M 80) (((12 * x3) + x4) : Int32).toNatClampNeg)]) H.1 rfl ?_
    replace H := H.2
    refine Ev.steps 1 (pc' := if ((M 80) (((12 * x3) + x4) : Int32).toNatClampNeg) = 0 then 69 else 119) (L' := [some (.ref 59), some (.int x1), some (.int x2), some (.int x3), some (.int x4), some (.int ((12 * x3) + x4)), some (.int ((M 78) (((12 * x3) + x4) : Int32).toNatClampNeg))]) (st' := []) rfl ?_
    refine Ev_ite (fun hc => ?_) (fun hc => ?_)
    · replace H := H.1 hc
      refine Ev.steps 3 (pc' := 75) (L' := [some (.ref 59), some (.int x1), some (.int x2), some (.int x3), some (.int x4), some (.int ((12 * x3) + x4)), some (.int ((M 78) (((12 * x3) + x4) : Int32).toNatClampNeg))]) (st' := [.int ((M 78) (((12 * x3) + x4) : Int32).toNatClampNeg), .ref 73]) rfl ?_
      refine Ev.rd (i := ((M 78) (((12 * x3) + x4) : Int32).toNatClampNeg)) (n := 8) (pc' := 76) (L' := [some (.ref 59), some (.int x1), some (.int x2), some (.int x3), some (.int x4), some (.int ((12 * x3) + x4)), some (.int ((M 78) (((12 * x3) + x4) : Int32).toNatClampNeg))]) (st' := [.int ((M 73) (((M 78) (((12 * x3) + x4) : Int32).toNatClampNeg) : Int32).toNatClampNeg)]) H.1 rfl ?_
      replace H := H.2
      refine Ev.steps 2 (pc' := if x1 < ((M 73) (((M 78) (((12 * x3) + x4) : Int32).toNatClampNeg) : Int32).toNatClampNeg) then 119 else 80) (L' := [some (.ref 59), some (.int x1), some (.int x2), some (.int x3), some (.int x4), some (.int ((12 * x3) + x4)), some (.int ((M 78) (((12 * x3) + x4) : Int32).toNatClampNeg))]) (st' := []) rfl ?_
      refine Ev_ite (fun hc => ?_) (fun hc => ?_)
      · replace H := H.1 hc
        refine Ev.steps 3 (pc' := 125) (L' := [some (.ref 59), some (.int x1), some (.int x2), some (.int x3), some (.int x4), some (.int ((12 * x3) + x4)), some (.int ((M 78) (((12 * x3) + x4) : Int32).toNatClampNeg))]) (st' := [.int ((12 * x3) + x4), .ref 80]) rfl ?_
        refine Ev.rd (i := ((12 * x3) + x4)) (n := 768) (pc' := 126) (L' := [some (.ref 59), some (.int x1), some (.int x2), some (.int x3), some (.int x4), some (.int ((12 * x3) + x4)), some (.int ((M 78) (((12 * x3) + x4) : Int32).toNatClampNeg))]) (st' := [.int ((M 80) (((12 * x3) + x4) : Int32).toNatClampNeg)]) H.1 rfl ?_
        replace H := H.2
        refine Ev.steps 2 (pc' := if ((M 80) (((12 * x3) + x4) : Int32).toNatClampNeg) = 1 then 130 else 152) (L' := [some (.ref 59), some (.int x1), some (.int x2), some (.int x3), some (.int x4), some (.int ((12 * x3) + x4)), some (.int ((M 78) (((12 * x3) + x4) : Int32).toNatClampNeg))]) (st' := []) rfl ?_
        refine Ev_ite (fun hc => ?_) (fun hc => ?_)
        · replace H := H.1 hc
          refine Ev.steps 3 (pc' := 136) (L' := [some (.ref 59), some (.int x1), some (.int x2), some (.int x3), some (.int x4), some (.int ((12 * x3) + x4)), some (.int ((M 78) (((12 * x3) + x4) : Int32).toNatClampNeg))]) (st' := [.int ((M 78) (((12 * x3) + x4) : Int32).toNatClampNeg), .ref 73]) rfl ?_
          refine Ev.rd (i := ((M 78) (((12 * x3) + x4) : Int32).toNatClampNeg)) (n := 8) (pc' := 137) (L' := [some (.ref 59), some (.int x1), some (.int x2), some (.int x3), some (.int x4), some (.int ((12 * x3) + x4)), some (.int ((M 78) (((12 * x3) + x4) : Int32).toNatClampNeg))]) (st' := [.int ((M 73) (((M 78) (((12 * x3) + x4) : Int32).toNatClampNeg) : Int32).toNatClampNeg)]) H.1 rfl ?_
          replace H := H.2
          refine Ev.steps 4 (pc' := if x1 ≤ (((M 73) (((M 78) (((12 * x3) + x4) : Int32).toNatClampNeg) : Int32).toNatClampNeg) + 50) then 152 else 144) (L' := [some (.ref 59), some (.int x1), some (.int x2), some (.int x3), some (.int x4), some (.int ((12 * x3) + x4)), some (.int ((M 78) (((12 * x3) + x4) : Int32).toNatClampNeg))]) (st' := []) rfl ?_
          refine Ev_ite (fun hc => ?_) (fun hc => ?_)
          · replace H := H.1 hc
            refine Ev.steps 2 (pc' := 30) (L' := [some (.ref 59), some (.int x1), some (.int x2), some (.int x3), some (.int (x4 + 1)), some (.int ((12 * x3) + x4)), some (.int ((M 78) (((12 * x3) + x4) : Int32).toNatClampNeg))]) (st' := []) rfl ?_
            exact Ev.weak [some (.ref 59), some (.int x1), some (.int x2), some (.int x3), some (.int (x4 + 1)), none, none] (gw_leb_le ⟨rfl, rfl, rfl, rfl, rfl, trivial⟩) H
          · replace H := H.2 hc
            refine Ev.steps 4 (pc' := 151) (L' := [some (.ref 59), some (.int x1), some (.int x2), some (.int x3), some (.int x4), some (.int ((12 * x3) + x4)), some (.int ((M 78) (((12 * x3) + x4) : Int32).toNatClampNeg))]) (st' := [.int 2, .int ((12 * x3) + x4), .ref 80]) rfl ?_
            refine Ev.wr (a := 80) (g := (upd (M 80) (((12 * x3) + x4) : Int32).toNatClampNeg 2)) (i := ((12 * x3) + x4)) (n := 768) (pc' := 152) (L' := [some (.ref 59), some (.int x1), some (.int x2), some (.int x3), some (.int x4), some (.int ((12 * x3) + x4)), some (.int ((M 78) (((12 * x3) + x4) : Int32).toNatClampNeg))]) (st' := []) (by decide) H.1 rfl ?_
            replace H := H.2
            refine Ev.steps 2 (pc' := 30) (L' := [some (.ref 59), some (.int x1), some (.int x2), some (.int x3), some (.int (x4 + 1)), some (.int ((12 * x3) + x4)), some (.int ((M 78) (((12 * x3) + x4) : Int32).toNatClampNeg))]) (st' := []) rfl ?_
            exact Ev.weak [some (.ref 59), some (.int x1), some (.int x2), some (.int x3), some (.int (x4 + 1)), none, none] (gw_leb_le ⟨rfl, rfl, rfl, rfl, rfl, trivial⟩) H
        · replace H := H.2 hc
          refine Ev.steps 2 (pc' := 30) (L' := [some (.ref 59), some (.int x1), some (.int x2), some (.int x3), some (.int (x4 + 1)), some (.int ((12 * x3) + x4)), some (.int ((M 78) (((12 * x3) + x4) : Int32).toNatClampNeg))]) (st' := []) rfl ?_
          exact Ev.weak [some (.ref 59), some (.int x1), some (.int x2), some (.int x3), some (.int (x4 + 1)), none, none] (gw_leb_le ⟨rfl, rfl, rfl, rfl, rfl, trivial⟩) H
      · replace H := H.2 hc
        refine Ev.steps 4 (pc' := 87) (L' := [some (.ref 59), some (.int x1), some (.int x2), some (.int x3), some (.int x4), some (.int ((12 * x3) + x4)), some (.int ((M 78) (((12 * x3) + x4) : Int32).toNatClampNeg))]) (st' := [.int 1, .int ((12 * x3) + x4), .ref 80]) rfl ?_
        refine Ev.wr (a := 80) (g := (upd (M 80) (((12 * x3) + x4) : Int32).toNatClampNeg 1)) (i := ((12 * x3) + x4)) (n := 768) (pc' := 88) (L' := [some (.ref 59), some (.int x1), some (.int x2), some (.int x3), some (.int x4), some (.int ((12 * x3) + x4)), some (.int ((M 78) (((12 * x3) + x4) : Int32).toNatClampNeg))]) (st' := []) (by decide) H.1 rfl ?_
        replace H := H.2
        refine Ev.steps 4 (pc' := 95) (L' := [some (.ref 59), some (.int x1), some (.int x2), some (.int x3), some (.int x4), some (.int ((12 * x3) + x4)), some (.int ((M 78) (((12 * x3) + x4) : Int32).toNatClampNeg))]) (st' := [.int ((12 * x3) + x4), .ref 79, .int ((12 * x3) + x4), .ref 79]) rfl ?_
        refine Ev.rd (i := ((12 * x3) + x4)) (n := 768) (pc' := 96) (L' := [some (.ref 59), some (.int x1), some (.int x2), some (.int x3), some (.int x4), some (.int ((12 * x3) + x4)), some (.int ((M 78) (((12 * x3) + x4) : Int32).toNatClampNeg))]) (st' := [.int ((M 79) (((12 * x3) + x4) : Int32).toNatClampNeg), .int ((12 * x3) + x4), .ref 79]) H.1 rfl ?_
        replace H := H.2
        refine Ev.steps 3 (pc' := 102) (L' := [some (.ref 59), some (.int x1), some (.int x2), some (.int x3), some (.int x4), some (.int ((12 * x3) + x4)), some (.int ((M 78) (((12 * x3) + x4) : Int32).toNatClampNeg))]) (st' := [.int ((12 * x3) + x4), .ref 79, .int ((M 79) (((12 * x3) + x4) : Int32).toNatClampNeg), .int ((12 * x3) + x4), .ref 79]) rfl ?_
        refine Ev.rd (i := ((12 * x3) + x4)) (n := 768) (pc' := 103) (L' := [some (.ref 59), some (.int x1), some (.int x2), some (.int x3), some (.int x4), some (.int ((12 * x3) + x4)), some (.int ((M 78) (((12 * x3) + x4) : Int32).toNatClampNeg))]) (st' := [.int ((M 79) (((12 * x3) + x4) : Int32).toNatClampNeg), .int ((M 79) (((12 * x3) + x4) : Int32).toNatClampNeg), .int ((12 * x3) + x4), .ref 79]) H.1 rfl ?_
        replace H := H.2
        refine Ev.steps 3 (pc' := 109) (L' := [some (.ref 59), some (.int x1), some (.int x2), some (.int x3), some (.int x4), some (.int ((12 * x3) + x4)), some (.int ((M 78) (((12 * x3) + x4) : Int32).toNatClampNeg))]) (st' := [.int ((M 78) (((12 * x3) + x4) : Int32).toNatClampNeg), .ref 74, .int ((M 79) (((12 * x3) + x4) : Int32).toNatClampNeg), .int ((M 79) (((12 * x3) + x4) : Int32).toNatClampNeg), .int ((12 * x3) + x4), .ref 79]) rfl ?_
        refine Ev.rd (i := ((M 78) (((12 * x3) + x4) : Int32).toNatClampNeg)) (n := 8) (pc' := 110) (L' := [some (.ref 59), some (.int x1), some (.int x2), some (.int x3), some (.int x4), some (.int ((12 * x3) + x4)), some (.int ((M 78) (((12 * x3) + x4) : Int32).toNatClampNeg))]) (st' := [.int ((M 74) (((M 78) (((12 * x3) + x4) : Int32).toNatClampNeg) : Int32).toNatClampNeg), .int ((M 79) (((12 * x3) + x4) : Int32).toNatClampNeg), .int ((M 79) (((12 * x3) + x4) : Int32).toNatClampNeg), .int ((12 * x3) + x4), .ref 79]) H.1 rfl ?_
        replace H := H.2
        refine Ev.steps 2 (pc' := 113) (L' := [some (.ref 59), some (.int x1), some (.int x2), some (.int x3), some (.int x4), some (.int ((12 * x3) + x4)), some (.int ((M 78) (((12 * x3) + x4) : Int32).toNatClampNeg))]) (st' := [.int 10, .int (((M 79) (((12 * x3) + x4) : Int32).toNatClampNeg) * ((M 74) (((M 78) (((12 * x3) + x4) : Int32).toNatClampNeg) : Int32).toNatClampNeg)), .int ((M 79) (((12 * x3) + x4) : Int32).toNatClampNeg), .int ((12 * x3) + x4), .ref 79]) rfl ?_
        refine Ev.dv (y := 10) (pc' := 114) (L' := [some (.ref 59), some (.int x1), some (.int x2), some (.int x3), some (.int x4), some (.int ((12 * x3) + x4)), some (.int ((M 78) (((12 * x3) + x4) : Int32).toNatClampNeg))]) (st' := [.int ((((M 79) (((12 * x3) + x4) : Int32).toNatClampNeg) * ((M 74) (((M 78) (((12 * x3) + x4) : Int32).toNatClampNeg) : Int32).toNatClampNeg)) / 10), .int ((M 79) (((12 * x3) + x4) : Int32).toNatClampNeg), .int ((12 * x3) + x4), .ref 79]) (by decide) rfl ?_
        refine Ev.steps 1 (pc' := 115) (L' := [some (.ref 59), some (.int x1), some (.int x2), some (.int x3), some (.int x4), some (.int ((12 * x3) + x4)), some (.int ((M 78) (((12 * x3) + x4) : Int32).toNatClampNeg))]) (st' := [.int (((M 79) (((12 * x3) + x4) : Int32).toNatClampNeg) - ((((M 79) (((12 * x3) + x4) : Int32).toNatClampNeg) * ((M 74) (((M 78) (((12 * x3) + x4) : Int32).toNatClampNeg) : Int32).toNatClampNeg)) / 10)), .int ((12 * x3) + x4), .ref 79]) rfl ?_
        refine Ev.wr (a := 79) (g := (upd (M 79) (((12 * x3) + x4) : Int32).toNatClampNeg (((M 79) (((12 * x3) + x4) : Int32).toNatClampNeg) - ((((M 79) (((12 * x3) + x4) : Int32).toNatClampNeg) * ((M 74) (((M 78) (((12 * x3) + x4) : Int32).toNatClampNeg) : Int32).toNatClampNeg)) / 10)))) (i := ((12 * x3) + x4)) (n := 768) (pc' := 116) (L' := [some (.ref 59), some (.int x1), some (.int x2), some (.int x3), some (.int x4), some (.int ((12 * x3) + x4)), some (.int ((M 78) (((12 * x3) + x4) : Int32).toNatClampNeg))]) (st' := []) (by decide) H.1 rfl ?_
        replace H := H.2
        refine Ev.steps 4 (pc' := 125) (L' := [some (.ref 59), some (.int x1), some (.int (x2 + 1)), some (.int x3), some (.int x4), some (.int ((12 * x3) + x4)), some (.int ((M 78) (((12 * x3) + x4) : Int32).toNatClampNeg))]) (st' := [.int ((12 * x3) + x4), .ref 80]) rfl ?_
        refine Ev.rd (i := ((12 * x3) + x4)) (n := 768) (pc' := 126) (L' := [some (.ref 59), some (.int x1), some (.int (x2 + 1)), some (.int x3), some (.int x4), some (.int ((12 * x3) + x4)), some (.int ((M 78) (((12 * x3) + x4) : Int32).toNatClampNeg))]) (st' := [.int ((upd (M 80) (((12 * x3) + x4) : Int32).toNatClampNeg 1) (((12 * x3) + x4) : Int32).toNatClampNeg)]) H.1 rfl ?_
        replace H := H.2
        refine Ev.steps 2 (pc' := if ((upd (M 80) (((12 * x3) + x4) : Int32).toNatClampNeg 1) (((12 * x3) + x4) : Int32).toNatClampNeg) = 1 then 130 else 152) (L' := [some (.ref 59), some (.int x1), some (.int (x2 + 1)), some (.int x3), some (.int x4), some (.int ((12 * x3) + x4)), some (.int ((M 78) (((12 * x3) + x4) : Int32).toNatClampNeg))]) (st' := []) rfl ?_
        refine Ev_ite (fun hc => ?_) (fun hc => ?_)
        · replace H := H.1 hc
          refine Ev.steps 3 (pc' := 136) (L' := [some (.ref 59), some (.int x1), some (.int (x2 + 1)), some (.int x3), some (.int x4), some (.int ((12 * x3) + x4)), some (.int ((M 78) (((12 * x3) + x4) : Int32).toNatClampNeg))]) (st' := [.int ((M 78) (((12 * x3) + x4) : Int32).toNatClampNeg), .ref 73]) rfl ?_
          refine Ev.rd (i := ((M 78) (((12 * x3) + x4) : Int32).toNatClampNeg)) (n := 8) (pc' := 137) (L' := [some (.ref 59), some (.int x1), some (.int (x2 + 1)), some (.int x3), some (.int x4), some (.int ((12 * x3) + x4)), some (.int ((M 78) (((12 * x3) + x4) : Int32).toNatClampNeg))]) (st' := [.int ((M 73) (((M 78) (((12 * x3) + x4) : Int32).toNatClampNeg) : Int32).toNatClampNeg)]) H.1 rfl ?_
          replace H := H.2
          refine Ev.steps 4 (pc' := if x1 ≤ (((M 73) (((M 78) (((12 * x3) + x4) : Int32).toNatClampNeg) : Int32).toNatClampNeg) + 50) then 152 else 144) (L' := [some (.ref 59), some (.int x1), some (.int (x2 + 1)), some (.int x3), some (.int x4), some (.int ((12 * x3) + x4)), some (.int ((M 78) (((12 * x3) + x4) : Int32).toNatClampNeg))]) (st' := []) rfl ?_
          refine Ev_ite (fun hc => ?_) (fun hc => ?_)
          · replace H := H.1 hc
            refine Ev.steps 2 (pc' := 30) (L' := [some (.ref 59), some (.int x1), some (.int (x2 + 1)), some (.int x3), some (.int (x4 + 1)), some (.int ((12 * x3) + x4)), some (.int ((M 78) (((12 * x3) + x4) : Int32).toNatClampNeg))]) (st' := []) rfl ?_
            exact Ev.weak [some (.ref 59), some (.int x1), some (.int (x2 + 1)), some (.int x3), some (.int (x4 + 1)), none, none] (gw_leb_le ⟨rfl, rfl, rfl, rfl, rfl, trivial⟩) H
          · replace H := H.2 hc
            refine Ev.steps 4 (pc' := 151) (L' := [some (.ref 59), some (.int x1), some (.int (x2 + 1)), some (.int x3), some (.int x4), some (.int ((12 * x3) + x4)), some (.int ((M 78) (((12 * x3) + x4) : Int32).toNatClampNeg))]) (st' := [.int 2, .int ((12 * x3) + x4), .ref 80]) rfl ?_
            refine Ev.wr (a := 80) (g := (upd (upd (M 80) (((12 * x3) + x4) : Int32).toNatClampNeg 1) (((12 * x3) + x4) : Int32).toNatClampNeg 2)) (i := ((12 * x3) + x4)) (n := 768) (pc' := 152) (L' := [some (.ref 59), some (.int x1), some (.int (x2 + 1)), some (.int x3), some (.int x4), some (.int ((12 * x3) + x4)), some (.int ((M 78) (((12 * x3) + x4) : Int32).toNatClampNeg))]) (st' := []) (by decide) H.1 rfl ?_
            replace H := H.2
            refine Ev.mto (M' := (up (up M 80 (upd (upd (M 80) (((12 * x3) + x4) : Int32).toNatClampNeg 1) (((12 * x3) + x4) : Int32).toNatClampNeg 2)) 79 (upd (M 79) (((12 * x3) + x4) : Int32).toNatClampNeg (((M 79) (((12 * x3) + x4) : Int32).toNatClampNeg) - ((((M 79) (((12 * x3) + x4) : Int32).toNatClampNeg) * ((M 74) (((M 78) (((12 * x3) + x4) : Int32).toNatClampNeg) : Int32).toNatClampNeg)) / 10))))) (by funext q9; unfold up; by_cases e9 : q9 = 80 <;> simp [e9]) ?_
            refine Ev.steps 2 (pc' := 30) (L' := [some (.ref 59), some (.int x1), some (.int (x2 + 1)), some (.int x3), some (.int (x4 + 1)), some (.int ((12 * x3) + x4)), some (.int ((M 78) (((12 * x3) + x4) : Int32).toNatClampNeg))]) (st' := []) rfl ?_
            exact Ev.weak [some (.ref 59), some (.int x1), some (.int (x2 + 1)), some (.int x3), some (.int (x4 + 1)), none, none] (gw_leb_le ⟨rfl, rfl, rfl, rfl, rfl, trivial⟩) H
        · replace H := H.2 hc
          refine Ev.steps 2 (pc' := 30) (L' := [some (.ref 59), some (.int x1), some (.int (x2 + 1)), some (.int x3), some (.int (x4 + 1)), some (.int ((12 * x3) + x4)), some (.int ((M 78) (((12 * x3) + x4) : Int32).toNatClampNeg))]) (st' := []) rfl ?_
          exact Ev.weak [some (.ref 59), some (.int x1), some (.int (x2 + 1)), some (.int x3), some (.int (x4 + 1)), none, none] (gw_leb_le ⟨rfl, rfl, rfl, rfl, rfl, trivial⟩) H
    · replace H := H.2 hc
      refine Ev.steps 3 (pc' := 125) (L' := [some (.ref 59), some (.int x1), some (.int x2), some (.int x3), some (.int x4), some (.int ((12 * x3) + x4)), some (.int ((M 78) (((12 * x3) + x4) : Int32).toNatClampNeg))]) (st' := [.int ((12 * x3) + x4), .ref 80]) rfl ?_
      refine Ev.rd (i := ((12 * x3) + x4)) (n := 768) (pc' := 126) (L' := [some (.ref 59), some (.int x1), some (.int x2), some (.int x3), some (.int x4), some (.int ((12 * x3) + x4)), some (.int ((M 78) (((12 * x3) + x4) : Int32).toNatClampNeg))]) (st' := [.int ((M 80) (((12 * x3) + x4) : Int32).toNatClampNeg)]) H.1 rfl ?_
      replace H := H.2
      refine Ev.steps 2 (pc' := if ((M 80) (((12 * x3) + x4) : Int32).toNatClampNeg) = 1 then 130 else 152) (L' := [some (.ref 59), some (.int x1), some (.int x2), some (.int x3), some (.int x4), some (.int ((12 * x3) + x4)), some (.int ((M 78) (((12 * x3) + x4) : Int32).toNatClampNeg))]) (st' := []) rfl ?_
      refine Ev_ite (fun hc => ?_) (fun hc => ?_)
      · replace H := H.1 hc
        refine Ev.steps 3 (pc' := 136) (L' := [some (.ref 59), some (.int x1), some (.int x2), some (.int x3), some (.int x4), some (.int ((12 * x3) + x4)), some (.int ((M 78) (((12 * x3) + x4) : Int32).toNatClampNeg))]) (st' := [.int ((M 78) (((12 * x3) + x4) : Int32).toNatClampNeg), .ref 73]) rfl ?_
        refine Ev.rd (i := ((M 78) (((12 * x3) + x4) : Int32).toNatClampNeg)) (n := 8) (pc' := 137) (L' := [some (.ref 59), some (.int x1), some (.int x2), some (.int x3), some (.int x4), some (.int ((12 * x3) + x4)), some (.int ((M 78) (((12 * x3) + x4) : Int32).toNatClampNeg))]) (st' := [.int ((M 73) (((M 78) (((12 * x3) + x4) : Int32).toNatClampNeg) : Int32).toNatClampNeg)]) H.1 rfl ?_
        replace H := H.2
        refine Ev.steps 4 (pc' := if x1 ≤ (((M 73) (((M 78) (((12 * x3) + x4) : Int32).toNatClampNeg) : Int32).toNatClampNeg) + 50) then 152 else 144) (L' := [some (.ref 59), some (.int x1), some (.int x2), some (.int x3), some (.int x4), some (.int ((12 * x3) + x4)), some (.int ((M 78) (((12 * x3) + x4) : Int32).toNatClampNeg))]) (st' := []) rfl ?_
        refine Ev_ite (fun hc => ?_) (fun hc => ?_)
        · replace H := H.1 hc
          refine Ev.steps 2 (pc' := 30) (L' := [some (.ref 59), some (.int x1), some (.int x2), some (.int x3), some (.int (x4 + 1)), some (.int ((12 * x3) + x4)), some (.int ((M 78) (((12 * x3) + x4) : Int32).toNatClampNeg))]) (st' := []) rfl ?_
          exact Ev.weak [some (.ref 59), some (.int x1), some (.int x2), some (.int x3), some (.int (x4 + 1)), none, none] (gw_leb_le ⟨rfl, rfl, rfl, rfl, rfl, trivial⟩) H
        · replace H := H.2 hc
          refine Ev.steps 4 (pc' := 151) (L' := [some (.ref 59), some (.int x1), some (.int x2), some (.int x3), some (.int x4), some (.int ((12 * x3) + x4)), some (.int ((M 78) (((12 * x3) + x4) : Int32).toNatClampNeg))]) (st' := [.int 2, .int ((12 * x3) + x4), .ref 80]) rfl ?_
          refine Ev.wr (a := 80) (g := (upd (M 80) (((12 * x3) + x4) : Int32).toNatClampNeg 2)) (i := ((12 * x3) + x4)) (n := 768) (pc' := 152) (L' := [some (.ref 59), some (.int x1), some (.int x2), some (.int x3), some (.int x4), some (.int ((12 * x3) + x4)), some (.int ((M 78) (((12 * x3) + x4) : Int32).toNatClampNeg))]) (st' := []) (by decide) H.1 rfl ?_
          replace H := H.2
          refine Ev.steps 2 (pc' := 30) (L' := [some (.ref 59), some (.int x1), some (.int x2), some (.int x3), some (.int (x4 + 1)), some (.int ((12 * x3) + x4)), some (.int ((M 78) (((12 * x3) + x4) : Int32).toNatClampNeg))]) (st' := []) rfl ?_
          exact Ev.weak [some (.ref 59), some (.int x1), some (.int x2), some (.int x3), some (.int (x4 + 1)), none, none] (gw_leb_le ⟨rfl, rfl, rfl, rfl, rfl, trivial⟩) H
      · replace H := H.2 hc
        refine Ev.steps 2 (pc' := 30) (L' := [some (.ref 59), some (.int x1), some (.int x2), some (.int x3), some (.int (x4 + 1)), some (.int ((12 * x3) + x4)), some (.int ((M 78) (((12 * x3) + x4) : Int32).toNatClampNeg))]) (st' := []) rfl ?_
        exact Ev.weak [some (.ref 59), some (.int x1), some (.int x2), some (.int x3), some (.int (x4 + 1)), none, none] (gw_leb_le ⟨rfl, rfl, rfl, rfl, rfl, trivial⟩) H

-- 278 GlassWiresModel state (I)I
set_option maxRecDepth 20000 in
theorem w278_0 {E : gw_N} {M : Mem} {res : Option Value × gw_H} {x1 : Int32} (H : ((x1 = 0 → Ev 5 278 42 [some (.ref 59), some (.int x1), some (.int 0), some (.int 0), none] [] (hs E M) res) ∧ (x1 = 1 → Ev 5 278 42 [some (.ref 59), some (.int x1), some (.int 0), some (.int 0), none] [] (hs E M) res) ∧ (x1 = 2 → Ev 5 278 42 [some (.ref 59), some (.int x1), some (.int 0), some (.int 0), none] [] (hs E M) res) ∧ (x1 = 3 → Ev 5 278 104 [some (.ref 59), none, some (.int 0), some (.int 0), none] [] (hs E M) res) ∧ (x1 = 4 → (∃ (r1 : Int32), Rn 277 [.ref 59] (hs E M) (some (.int r1)) (hs E M) ∧ res = (some (.int r1), hs E M))) ∧ (x1 = 5 → res = (some (.int ((M 59) 29)), hs E M)) ∧ (¬ x1 = 0 → ¬ x1 = 1 → ¬ x1 = 2 → ¬ x1 = 3 → ¬ x1 = 4 → ¬ x1 = 5 → res = (some (.int (-102)), hs E M)))) : Ev 5 278 0 [some (.ref 59), some (.int x1), none, none, none] [] (hs E M) res := by
  refine Ev.steps 3 (pc' := 3) (L' := [some (.ref 59), some (.int x1), some (.int 0), none, none]) (st' := [.int x1]) rfl ?_
  by_cases hw0 : x1 = 0
  · replace H := H.1 hw0
    refine Ev.sw (p := gw_tsw 3 147 0 5 #[37, 37, 37, 99, 137, 142] x1) (pc' := 40) (L' := [some (.ref 59), some (.int x1), some (.int 0), none, none]) (st' := []) rfl (by rw [hw0]; decide +kernel) ?_
    refine Ev.steps 2 (pc' := 42) (L' := [some (.ref 59), some (.int x1), some (.int 0), some (.int 0), none]) (st' := []) rfl ?_
    exact Ev.weak [some (.ref 59), some (.int x1), some (.int 0), some (.int 0), none] (gw_leb_le ⟨rfl, rfl, rfl, rfl, trivial⟩) H
  replace H := H.2
  by_cases hw1 : x1 = 1
  · replace H := H.1 hw1
    refine Ev.sw (p := gw_tsw 3 147 0 5 #[37, 37, 37, 99, 137, 142] x1) (pc' := 40) (L' := [some (.ref 59), some (.int x1), some (.int 0), none, none]) (st' := []) rfl (by rw [hw1]; decide +kernel) ?_
    refine Ev.steps 2 (pc' := 42) (L' := [some (.ref 59), some (.int x1), some (.int 0), some (.int 0), none]) (st' := []) rfl ?_
    exact Ev.weak [some (.ref 59), some (.int x1), some (.int 0), some (.int 0), none] (gw_leb_le ⟨rfl, rfl, rfl, rfl, trivial⟩) H
  replace H := H.2
  by_cases hw2 : x1 = 2
  · replace H := H.1 hw2
    refine Ev.sw (p := gw_tsw 3 147 0 5 #[37, 37, 37, 99, 137, 142] x1) (pc' := 40) (L' := [some (.ref 59), some (.int x1), some (.int 0), none, none]) (st' := []) rfl (by rw [hw2]; decide +kernel) ?_
    refine Ev.steps 2 (pc' := 42) (L' := [some (.ref 59), some (.int x1), some (.int 0), some (.int 0), none]) (st' := []) rfl ?_
    exact Ev.weak [some (.ref 59), some (.int x1), some (.int 0), some (.int 0), none] (gw_leb_le ⟨rfl, rfl, rfl, rfl, trivial⟩) H
  replace H := H.2
  by_cases hw3 : x1 = 3
  · replace H := H.1 hw3
    refine Ev.sw (p := gw_tsw 3 147 0 5 #[37, 37, 37, 99, 137, 142] x1) (pc' := 102) (L' := [some (.ref 59), some (.int x1), some (.int 0), none, none]) (st' := []) rfl (by rw [hw3]; decide +kernel) ?_
    refine Ev.steps 2 (pc' := 104) (L' := [some (.ref 59), some (.int x1), some (.int 0), some (.int 0), none]) (st' := []) rfl ?_
    exact Ev.weak [some (.ref 59), none, some (.int 0), some (.int 0), none] (gw_leb_le ⟨rfl, rfl, rfl, trivial⟩) H
  replace H := H.2
  by_cases hw4 : x1 = 4
  · replace H := H.1 hw4
    refine Ev.sw (p := gw_tsw 3 147 0 5 #[37, 37, 37, 99, 137, 142] x1) (pc' := 140) (L' := [some (.ref 59), some (.int x1), some (.int 0), none, none]) (st' := []) rfl (by rw [hw4]; decide +kernel) ?_
    refine Ev.steps 1 (pc' := 141) (L' := [some (.ref 59), some (.int x1), some (.int 0), none, none]) (st' := [.ref 59]) rfl ?_
    obtain ⟨r1, hr1, H⟩ := H
    refine Ev.call (y := 277) (args := [.ref 59]) (rest := []) (r := (some (.int r1))) rfl hr1 ?_
    show Ev 5 278 144 [some (.ref 59), some (.int x1), some (.int 0), none, none] [.int r1] _ _
    subst H
    exact Ev.ret rfl
  replace H := H.2
  by_cases hw5 : x1 = 5
  · replace H := H.1 hw5
    refine Ev.sw (p := gw_tsw 3 147 0 5 #[37, 37, 37, 99, 137, 142] x1) (pc' := 145) (L' := [some (.ref 59), some (.int x1), some (.int 0), none, none]) (st' := []) rfl (by rw [hw5]; decide +kernel) ?_
    refine Ev.steps 2 (pc' := 149) (L' := [some (.ref 59), some (.int x1), some (.int 0), none, none]) (st' := [.int ((M 59) 29)]) rfl ?_
    subst H
    exact Ev.ret rfl
  replace H := H.2
  replace H := H hw0 hw1 hw2 hw3 hw4 hw5
  refine Ev.sw (p := gw_tsw 3 147 0 5 #[37, 37, 37, 99, 137, 142] x1) (pc' := 150) (L' := [some (.ref 59), some (.int x1), some (.int 0), none, none]) (st' := []) rfl (gw_ts_df (by decide +kernel) (by
      intro k h1 h2
      have h3 : k = 0 ∨ k = 1 ∨ k = 2 ∨ k = 3 ∨ k = 4 ∨ k = 5 := by omega
      rcases h3 with rfl | rfl | rfl | rfl | rfl | rfl
      · exact fun h => hw0 (h.trans (by decide +kernel))
      · exact fun h => hw1 (h.trans (by decide +kernel))
      · exact fun h => hw2 (h.trans (by decide +kernel))
      · exact fun h => hw3 (h.trans (by decide +kernel))
      · exact fun h => hw4 (h.trans (by decide +kernel))
      · exact fun h => hw5 (h.trans (by decide +kernel)))) ?_
  refine Ev.steps 1 (pc' := 152) (L' := [some (.ref 59), some (.int x1), some (.int 0), none, none]) (st' := [.int (-102)]) rfl ?_
  subst H
  exact Ev.ret rfl

set_option maxRecDepth 20000 in
theorem w278_42 {E : gw_N} {M : Mem} {res : Option Value × gw_H} {x1 : Int32} {x2 : Int32} {x3 : Int32} (H : (((F243 M) ≤ x3 → res = (some (.int x2), hs E M)) ∧ (¬ (F243 M) ≤ x3 → Ev 5 278 53 [some (.ref 59), some (.int x1), some (.int x2), some (.int x3), some (.int 0)] [] (hs E M) res))) : Ev 5 278 42 [some (.ref 59), some (.int x1), some (.int x2), some (.int x3), none] [] (hs E M) res := by
  refine Ev.steps 2 (pc' := 44) (L' := [some (.ref 59), some (.int x1), some (.int x2), some (.int x3), none]) (st' := [.ref 59, .int x3]) rfl ?_
  refine Ev.call (y := 243) (args := [.ref 59]) (rest := [.int x3]) (r := some (.int (F243 M))) rfl (s243) ?_
  show Ev 5 278 47 [some (.ref 59), some (.int x1), some (.int x2), some (.int x3), none] [.int (F243 M), .int x3] _ _
  refine Ev.steps 1 (pc' := if (F243 M) ≤ x3 then 100 else 50) (L' := [some (.ref 59), some (.int x1), some (.int x2), some (.int x3), none]) (st' := []) rfl ?_
  refine Ev_ite (fun hc => ?_) (fun hc => ?_)
  · replace H := H.1 hc
    refine Ev.steps 1 (pc' := 101) (L' := [some (.ref 59), some (.int x1), some (.int x2), some (.int x3), none]) (st' := [.int x2]) rfl ?_
    subst H
    exact Ev.ret rfl
  · replace H := H.2 hc
    refine Ev.steps 2 (pc' := 53) (L' := [some (.ref 59), some (.int x1), some (.int x2), some (.int x3), some (.int 0)]) (st' := []) rfl ?_
    exact Ev.weak [some (.ref 59), some (.int x1), some (.int x2), some (.int x3), some (.int 0)] (gw_leb_le ⟨rfl, rfl, rfl, rfl, rfl, trivial⟩) H

set_option maxRecDepth 20000 in
theorem w278_104 {E : gw_N} {M : Mem} {res : Option Value × gw_H} {x2 : Int32} {x3 : Int32} (H : (((F243 M) ≤ x3 → res = (some (.int x2), hs E M)) ∧ (¬ (F243 M) ≤ x3 → (∃ (r1 : Int32), Rn 267 [.ref 59, .int x3] (hs E M) (some (.int r1)) (hs E M) ∧ ((r1 < ((M 59) 22) → Ev 5 278 104 [some (.ref 59), none, some (.int (x2 + 0)), some (.int (x3 + 1)), none] [] (hs E M) res) ∧ (¬ r1 < ((M 59) 22) → Ev 5 278 104 [some (.ref 59), none, some (.int (x2 + 1)), some (.int (x3 + 1)), none] [] (hs E M) res)))))) : Ev 5 278 104 [some (.ref 59), none, some (.int x2), some (.int x3), none] [] (hs E M) res := by
  refine Ev.steps 2 (pc' := 106) (L' := [some (.ref 59), none, some (.int x2), some (.int x3), none]) (st' := [.ref 59, .int x3]) rfl ?_
  refine Ev.call (y := 243) (args := [.ref 59]) (rest := [.int x3]) (r := some (.int (F243 M))) rfl (s243) ?_
  show Ev 5 278 109 [some (.ref 59), none, some (.int x2), some (.int x3), none] [.int (F243 M), .int x3] _ _
  refine Ev.steps 1 (pc' := if (F243 M) ≤ x3 then 138 else 112) (L' := [some (.ref 59), none, some (.int x2), some (.int x3), none]) (st' := []) rfl ?_
  refine Ev_ite (fun hc => ?_) (fun hc => ?_)
  · replace H := H.1 hc
    refine Ev.steps 1 (pc' := 139) (L' := [some (.ref 59), none, some (.int x2), some (.int x3), none]) (st' := [.int x2]) rfl ?_
    subst H
    exact Ev.ret rfl
  · replace H := H.2 hc
    refine Ev.steps 3 (pc' := 115) (L' := [some (.ref 59), none, some (.int x2), some (.int x3), none]) (st' := [.int x3, .ref 59, .int x2]) rfl ?_
    obtain ⟨r1, hr1, H⟩ := H
    refine Ev.call (y := 267) (args := [.ref 59, .int x3]) (rest := [.int x2]) (r := (some (.int r1))) rfl hr1 ?_
    show Ev 5 278 118 [some (.ref 59), none, some (.int x2), some (.int x3), none] [.int r1, .int x2] _ _
    refine Ev.steps 3 (pc' := if r1 < ((M 59) 22) then 129 else 125) (L' := [some (.ref 59), none, some (.int x2), some (.int x3), none]) (st' := [.int x2]) rfl ?_
    refine Ev_ite (fun hc => ?_) (fun hc => ?_)
    · replace H := H.1 hc
      refine Ev.steps 5 (pc' := 104) (L' := [some (.ref 59), none, some (.int (x2 + 0)), some (.int (x3 + 1)), none]) (st' := []) rfl ?_
      exact Ev.weak [some (.ref 59), none, some (.int (x2 + 0)), some (.int (x3 + 1)), none] (gw_leb_le ⟨rfl, rfl, rfl, trivial⟩) H
    · replace H := H.2 hc
      refine Ev.steps 6 (pc' := 104) (L' := [some (.ref 59), none, some (.int (x2 + 1)), some (.int (x3 + 1)), none]) (st' := []) rfl ?_
      exact Ev.weak [some (.ref 59), none, some (.int (x2 + 1)), some (.int (x3 + 1)), none] (gw_leb_le ⟨rfl, rfl, rfl, trivial⟩) H

set_option maxRecDepth 20000 in
theorem w278_53 {E : gw_N} {M : Mem} {res : Option Value × gw_H} {x1 : Int32} {x2 : Int32} {x3 : Int32} {x4 : Int32} (H : (inb x3 64 ∧ ((((M 77) (x3 : Int32).toNatClampNeg) ≤ x4 → Ev 5 278 42 [some (.ref 59), some (.int x1), some (.int x2), some (.int (x3 + 1)), none] [] (hs E M) res) ∧ (¬ ((M 77) (x3 : Int32).toNatClampNeg) ≤ x4 → (inb ((12 * x3) + x4) 768 ∧ ((((M 80) (((12 * x3) + x4) : Int32).toNatClampNeg) = x1 → Ev 5 278 53 [some (.ref 59), some (.int x1), some (.int (x2 + 1)), some (.int x3), some (.int (x4 + 1))] [] (hs E M) res) ∧ (¬ ((M 80) (((12 * x3) + x4) : Int32).toNatClampNeg) = x1 → Ev 5 278 53 [some (.ref 59), some (.int x1), some (.int (x2 + 0)), some (.int x3), some (.int (x4 + 1))] [] (hs E M) res))))))) : Ev 5 278 53 [some (.ref 59), some (.int x1), some (.int x2), some (.int x3), some (.int x4)] [] (hs E M) res := by
  refine Ev.steps 4 (pc' := 60) (L' := [some (.ref 59), some (.int x1), some (.int x2), some (.int x3), some (.int x4)]) (st' := [.int x3, .ref 77, .int x4]) rfl ?_
  refine Ev.rd (i := x3) (n := 64) (pc' := 61) (L' := [some (.ref 59), some (.int x1), some (.int x2), some (.int x3), some (.int x4)]) (st' := [.int ((M 77) (x3 : Int32).toNatClampNeg), .int x4]) H.1 rfl ?_
  replace H := H.2
  refine Ev.steps 1 (pc' := if ((M 77) (x3 : Int32).toNatClampNeg) ≤ x4 then 94 else 64) (L' := [some (.ref 59), some (.int x1), some (.int x2), some (.int x3), some (.int x4)]) (st' := []) rfl ?_
  refine Ev_ite (fun hc => ?_) (fun hc => ?_)
  · replace H := H.1 hc
    refine Ev.steps 2 (pc' := 42) (L' := [some (.ref 59), some (.int x1), some (.int x2), some (.int (x3 + 1)), some (.int x4)]) (st' := []) rfl ?_
    exact Ev.weak [some (.ref 59), some (.int x1), some (.int x2), some (.int (x3 + 1)), none] (gw_leb_le ⟨rfl, rfl, rfl, rfl, trivial⟩) H
  · replace H := H.2 hc
    refine Ev.steps 8 (pc' := 76) (L' := [some (.ref 59), some (.int x1), some (.int x2), some (.int x3), some (.int x4)]) (st' := [.int ((12 * x3) + x4), .ref 80, .int x2]) rfl ?_
    refine Ev.rd (i := ((12 * x3) + x4)) (n := 768) (pc' := 77) (L' := [some (.ref 59), some (.int x1), some (.int x2), some (.int x3), some (.int x4)]) (st' := [.int ((M 80) (((12 * x3) + x4) : Int32).toNatClampNeg), .int x2]) H.1 rfl ?_
    replace H := H.2
    refine Ev.steps 2 (pc' := if ((M 80) (((12 * x3) + x4) : Int32).toNatClampNeg) = x1 then 81 else 85) (L' := [some (.ref 59), some (.int x1), some (.int x2), some (.int x3), some (.int x4)]) (st' := [.int x2]) rfl ?_
    refine Ev_ite (fun hc => ?_) (fun hc => ?_)
    · replace H := H.1 hc
      refine Ev.steps 6 (pc' := 53) (L' := [some (.ref 59), some (.int x1), some (.int (x2 + 1)), some (.int x3), some (.int (x4 + 1))]) (st' := []) rfl ?_
      exact Ev.weak [some (.ref 59), some (.int x1), some (.int (x2 + 1)), some (.int x3), some (.int (x4 + 1))] (gw_leb_le ⟨rfl, rfl, rfl, rfl, rfl, trivial⟩) H
    · replace H := H.2 hc
      refine Ev.steps 5 (pc' := 53) (L' := [some (.ref 59), some (.int x1), some (.int (x2 + 0)), some (.int x3), some (.int (x4 + 1))]) (st' := []) rfl ?_
      exact Ev.weak [some (.ref 59), some (.int x1), some (.int (x2 + 0)), some (.int x3), some (.int (x4 + 1))] (gw_leb_le ⟨rfl, rfl, rfl, rfl, rfl, trivial⟩) H

-- 289 GlassWiresModel bow (I)I
set_option maxRecDepth 20000 in
theorem w289_0 {E : gw_N} {M : Mem} {res : Option Value × gw_H} {x1 : Int32} (H : ((x1 = 0 → (∃ (r1 : Int32), Rn 288 [.ref 59] (hs E M) (some (.int r1)) (hs E M) ∧ res = (some (.int r1), hs E M))) ∧ (¬ x1 = 0 → ((x1 = 1 → (∃ (r2 : Int32), Rn 288 [.ref 59] (hs E M) (some (.int r2)) (hs E M) ∧ (¬ ((M 59) 23) = 0 ∧ res = (some (.int (r2 / ((M 59) 23))), hs E M)))) ∧ (¬ x1 = 1 → res = (some (.int (-1000001)), hs E M)))))) : Ev 5 289 0 [some (.ref 59), some (.int x1)] [] (hs E M) res := by
  refine Ev.steps 2 (pc' := if x1 = 0 then 4 else 11) (L' := [some (.ref 59), some (.int x1)]) (st' := []) rfl ?_
  refine Ev_ite (fun hc => ?_) (fun hc => ?_)
  · replace H := H.1 hc
    refine Ev.steps 1 (pc' := 5) (L' := [some (.ref 59), some (.int x1)]) (st' := [.ref 59]) rfl ?_
    obtain ⟨r1, hr1, H⟩ := H
    refine Ev.call (y := 288) (args := [.ref 59]) (rest := []) (r := (some (.int r1))) rfl hr1 ?_
    show Ev 5 289 8 [some (.ref 59), some (.int x1)] [.int r1] _ _
    refine Ev.steps 1 (pc' := 31) (L' := [some (.ref 59), some (.int x1)]) (st' := [.int r1]) rfl ?_
    subst H
    exact Ev.ret rfl
  · replace H := H.2 hc
    refine Ev.steps 3 (pc' := if x1 = 1 then 16 else 28) (L' := [some (.ref 59), some (.int x1)]) (st' := []) rfl ?_
    refine Ev_ite (fun hc => ?_) (fun hc => ?_)
    · replace H := H.1 hc
      refine Ev.steps 1 (pc' := 17) (L' := [some (.ref 59), some (.int x1)]) (st' := [.ref 59]) rfl ?_
      obtain ⟨r2, hr2, H⟩ := H
      refine Ev.call (y := 288) (args := [.ref 59]) (rest := []) (r := (some (.int r2))) rfl hr2 ?_
      show Ev 5 289 20 [some (.ref 59), some (.int x1)] [.int r2] _ _
      refine Ev.steps 2 (pc' := 24) (L' := [some (.ref 59), some (.int x1)]) (st' := [.int ((M 59) 23), .int r2]) rfl ?_
      refine Ev.dv (y := ((M 59) 23)) (pc' := 25) (L' := [some (.ref 59), some (.int x1)]) (st' := [.int (r2 / ((M 59) 23))]) H.1 rfl ?_
      replace H := H.2
      refine Ev.steps 1 (pc' := 31) (L' := [some (.ref 59), some (.int x1)]) (st' := [.int (r2 / ((M 59) 23))]) rfl ?_
      subst H
      exact Ev.ret rfl
    · replace H := H.2 hc
      refine Ev.steps 1 (pc' := 31) (L' := [some (.ref 59), some (.int x1)]) (st' := [.int (-1000001)]) rfl ?_
      subst H
      exact Ev.ret rfl

-- 292 GlassWiresModel strainOf (I)I
set_option maxRecDepth 20000 in
theorem w292_0 {E : gw_N} {M : Mem} {res : Option Value × gw_H} {x1 : Int32} (H : (∃ (r1 : Int32), Rn 288 [.ref 59] (hs E M) (some (.int r1)) (hs E M) ∧ res = (some (.int ((x1 * (F290 M r1)) / 1000)), hs E M))) : Ev 5 292 0 [some (.ref 59), some (.int x1)] [] (hs E M) res := by
  refine Ev.steps 2 (pc' := 2) (L' := [some (.ref 59), some (.int x1)]) (st' := [.ref 59, .int x1]) rfl ?_
  obtain ⟨r1, hr1, H⟩ := H
  refine Ev.call (y := 288) (args := [.ref 59]) (rest := [.int x1]) (r := (some (.int r1))) rfl hr1 ?_
  show Ev 5 292 5 [some (.ref 59), some (.int x1)] [.int r1, .int x1] _ _
  refine Ev.call (y := 290) (args := [.int r1]) (rest := [.int x1]) (r := some (.int (F290 M r1))) rfl (s290) ?_
  show Ev 5 292 8 [some (.ref 59), some (.int x1)] [.int (F290 M r1), .int x1] _ _
  refine Ev.steps 2 (pc' := 12) (L' := [some (.ref 59), some (.int x1)]) (st' := [.int 1000, .int (x1 * (F290 M r1))]) rfl ?_
  refine Ev.dv (y := 1000) (pc' := 13) (L' := [some (.ref 59), some (.int x1)]) (st' := [.int ((x1 * (F290 M r1)) / 1000)]) (by decide) rfl ?_
  subst H
  exact Ev.ret rfl

-- 299 GlassWiresModel harms (II)I
set_option maxRecDepth 20000 in
theorem w299_0 {E : gw_N} {M : Mem} {res : Option Value × gw_H} {x1 : Int32} {x2 : Int32} (H : (∃ (r1 : Int32) (M1 : Mem), Rn 248 [.ref 59, .int x1] (hs E M) (some (.int r1)) (hs E M1) ∧ ((r1 = 0 → res = (some (.int (-101)), hs E M1)) ∧ (¬ r1 = 0 → (((F209 M1 (Int32.toInt64 x2) 1 999) = 0 → res = (some (.int (-102)), hs E M1)) ∧ (¬ (F209 M1 (Int32.toInt64 x2) 1 999) = 0 → (∃ (r2 : Int32), Rn 298 [.ref 59, .int x1, .int x2] (hs E M1) (some (.int r2)) (hs E M1) ∧ res = (some (.int r2), hs E M1)))))))) : Ev 5 299 0 [some (.ref 59), some (.int x1), some (.int x2)] [] (hs E M) res := by
  refine Ev.steps 2 (pc' := 2) (L' := [some (.ref 59), some (.int x1), some (.int x2)]) (st' := [.int x1, .ref 59]) rfl ?_
  obtain ⟨r1, M1, hr1, H⟩ := H
  refine Ev.call (y := 248) (args := [.ref 59, .int x1]) (rest := []) (r := (some (.int r1))) rfl hr1 ?_
  show Ev 5 299 5 [some (.ref 59), some (.int x1), some (.int x2)] [.int r1] _ _
  refine Ev.steps 1 (pc' := if r1 = 0 then 8 else 11) (L' := [some (.ref 59), some (.int x1), some (.int x2)]) (st' := []) rfl ?_
  refine Ev_ite (fun hc => ?_) (fun hc => ?_)
  · replace H := H.1 hc
    refine Ev.steps 1 (pc' := 10) (L' := [some (.ref 59), some (.int x1), some (.int x2)]) (st' := [.int (-101)]) rfl ?_
    subst H
    exact Ev.ret rfl
  · replace H := H.2 hc
    refine Ev.steps 4 (pc' := 17) (L' := [some (.ref 59), some (.int x1), some (.int x2)]) (st' := [.long 999, .long 1, .long (Int32.toInt64 x2)]) rfl ?_
    refine Ev.call (y := 209) (args := [.long (Int32.toInt64 x2), .long 1, .long 999]) (rest := []) (r := some (.int (F209 M1 (Int32.toInt64 x2) 1 999))) rfl (s209) ?_
    show Ev 5 299 20 [some (.ref 59), some (.int x1), some (.int x2)] [.int (F209 M1 (Int32.toInt64 x2) 1 999)] _ _
    refine Ev.steps 1 (pc' := if (F209 M1 (Int32.toInt64 x2) 1 999) = 0 then 32 else 23) (L' := [some (.ref 59), some (.int x1), some (.int x2)]) (st' := []) rfl ?_
    refine Ev_ite (fun hc => ?_) (fun hc => ?_)
    · replace H := H.1 hc
      refine Ev.steps 1 (pc' := 34) (L' := [some (.ref 59), some (.int x1), some (.int x2)]) (st' := [.int (-102)]) rfl ?_
      subst H
      exact Ev.ret rfl
    · replace H := H.2 hc
      refine Ev.steps 3 (pc' := 26) (L' := [some (.ref 59), some (.int x1), some (.int x2)]) (st' := [.int x2, .int x1, .ref 59]) rfl ?_
      obtain ⟨r2, hr2, H⟩ := H
      refine Ev.call (y := 298) (args := [.ref 59, .int x1, .int x2]) (rest := []) (r := (some (.int r2))) rfl hr2 ?_
      show Ev 5 299 29 [some (.ref 59), some (.int x1), some (.int x2)] [.int r2] _ _
      refine Ev.steps 1 (pc' := 34) (L' := [some (.ref 59), some (.int x1), some (.int x2)]) (st' := [.int r2]) rfl ?_
      subst H
      exact Ev.ret rfl

-- 300 GlassWiresModel safe (III)I
set_option maxRecDepth 20000 in
theorem w300_0 {E : gw_N} {M : Mem} {res : Option Value × gw_H} {x1 : Int32} {x2 : Int32} {x3 : Int32} (H : (∃ (r1 : Int32) (M1 : Mem), Rn 248 [.ref 59, .int x1] (hs E M) (some (.int r1)) (hs E M1) ∧ ((r1 = 0 → res = (some (.int (-101)), hs E M1)) ∧ (¬ r1 = 0 → (((F261 M1 x2) = 0 → res = (some (.int (-101)), hs E M1)) ∧ (¬ (F261 M1 x2) = 0 → (((F209 M1 (Int32.toInt64 x3) 0 1) = 0 → res = (some (.int (-102)), hs E M1)) ∧ (¬ (F209 M1 (Int32.toInt64 x3) 0 1) = 0 → (inb x2 8 ∧ (∃ (r2 : Int32), Rn 298 [.ref 59, .int x1, .int ((M1 73) (x2 : Int32).toNatClampNeg)] (hs E M1) (some (.int r2)) (hs E M1) ∧ ((r2 ≤ 0 → Ev 5 300 51 [some (.ref 59), some (.int x1), none, some (.int x3), some (.int ((M1 73) (x2 : Int32).toNatClampNeg))] [] (hs E M1) res) ∧ (¬ r2 ≤ 0 → res = (some (.int (-1)), hs E M1))))))))))))) : Ev 5 300 0 [some (.ref 59), some (.int x1), some (.int x2), some (.int x3), none] [] (hs E M) res := by
  refine Ev.steps 2 (pc' := 2) (L' := [some (.ref 59), some (.int x1), some (.int x2), some (.int x3), none]) (st' := [.int x1, .ref 59]) rfl ?_
  obtain ⟨r1, M1, hr1, H⟩ := H
  refine Ev.call (y := 248) (args := [.ref 59, .int x1]) (rest := []) (r := (some (.int r1))) rfl hr1 ?_
  show Ev 5 300 5 [some (.ref 59), some (.int x1), some (.int x2), some (.int x3), none] [.int r1] _ _
  refine Ev.steps 1 (pc' := if r1 = 0 then 15 else 8) (L' := [some (.ref 59), some (.int x1), some (.int x2), some (.int x3), none]) (st' := []) rfl ?_
  refine Ev_ite (fun hc => ?_) (fun hc => ?_)
  · replace H := H.1 hc
    refine Ev.steps 1 (pc' := 17) (L' := [some (.ref 59), some (.int x1), some (.int x2), some (.int x3), none]) (st' := [.int (-101)]) rfl ?_
    subst H
    exact Ev.ret rfl
  · replace H := H.2 hc
    refine Ev.steps 1 (pc' := 9) (L' := [some (.ref 59), some (.int x1), some (.int x2), some (.int x3), none]) (st' := [.int x2]) rfl ?_
    refine Ev.call (y := 261) (args := [.int x2]) (rest := []) (r := some (.int (F261 M1 x2))) rfl (s261) ?_
    show Ev 5 300 12 [some (.ref 59), some (.int x1), some (.int x2), some (.int x3), none] [.int (F261 M1 x2)] _ _
    refine Ev.steps 1 (pc' := if (F261 M1 x2) = 0 then 15 else 18) (L' := [some (.ref 59), some (.int x1), some (.int x2), some (.int x3), none]) (st' := []) rfl ?_
    refine Ev_ite (fun hc => ?_) (fun hc => ?_)
    · replace H := H.1 hc
      refine Ev.steps 1 (pc' := 17) (L' := [some (.ref 59), some (.int x1), some (.int x2), some (.int x3), none]) (st' := [.int (-101)]) rfl ?_
      subst H
      exact Ev.ret rfl
    · replace H := H.2 hc
      refine Ev.steps 4 (pc' := 22) (L' := [some (.ref 59), some (.int x1), some (.int x2), some (.int x3), none]) (st' := [.long 1, .long 0, .long (Int32.toInt64 x3)]) rfl ?_
      refine Ev.call (y := 209) (args := [.long (Int32.toInt64 x3), .long 0, .long 1]) (rest := []) (r := some (.int (F209 M1 (Int32.toInt64 x3) 0 1))) rfl (s209) ?_
      show Ev 5 300 25 [some (.ref 59), some (.int x1), some (.int x2), some (.int x3), none] [.int (F209 M1 (Int32.toInt64 x3) 0 1)] _ _
      refine Ev.steps 1 (pc' := if (F209 M1 (Int32.toInt64 x3) 0 1) = 0 then 28 else 31) (L' := [some (.ref 59), some (.int x1), some (.int x2), some (.int x3), none]) (st' := []) rfl ?_
      refine Ev_ite (fun hc => ?_) (fun hc => ?_)
      · replace H := H.1 hc
        refine Ev.steps 1 (pc' := 30) (L' := [some (.ref 59), some (.int x1), some (.int x2), some (.int x3), none]) (st' := [.int (-102)]) rfl ?_
        subst H
        exact Ev.ret rfl
      · replace H := H.2 hc
        refine Ev.steps 3 (pc' := 36) (L' := [some (.ref 59), some (.int x1), some (.int x2), some (.int x3), none]) (st' := [.int x2, .ref 73]) rfl ?_
        refine Ev.rd (i := x2) (n := 8) (pc' := 37) (L' := [some (.ref 59), some (.int x1), some (.int x2), some (.int x3), none]) (st' := [.int ((M1 73) (x2 : Int32).toNatClampNeg)]) H.1 rfl ?_
        replace H := H.2
        refine Ev.steps 4 (pc' := 43) (L' := [some (.ref 59), some (.int x1), some (.int x2), some (.int x3), some (.int ((M1 73) (x2 : Int32).toNatClampNeg))]) (st' := [.int ((M1 73) (x2 : Int32).toNatClampNeg), .int x1, .ref 59]) rfl ?_
        obtain ⟨r2, hr2, H⟩ := H
        refine Ev.call (y := 298) (args := [.ref 59, .int x1, .int ((M1 73) (x2 : Int32).toNatClampNeg)]) (rest := []) (r := (some (.int r2))) rfl hr2 ?_
        show Ev 5 300 46 [some (.ref 59), some (.int x1), some (.int x2), some (.int x3), some (.int ((M1 73) (x2 : Int32).toNatClampNeg))] [.int r2] _ _
        refine Ev.steps 1 (pc' := if r2 ≤ 0 then 51 else 49) (L' := [some (.ref 59), some (.int x1), some (.int x2), some (.int x3), some (.int ((M1 73) (x2 : Int32).toNatClampNeg))]) (st' := []) rfl ?_
        refine Ev_ite (fun hc => ?_) (fun hc => ?_)
        · replace H := H.1 hc
          exact Ev.weak [some (.ref 59), some (.int x1), none, some (.int x3), some (.int ((M1 73) (x2 : Int32).toNatClampNeg))] (gw_leb_le ⟨rfl, rfl, rfl, rfl, trivial⟩) H
        · replace H := H.2 hc
          refine Ev.steps 1 (pc' := 50) (L' := [some (.ref 59), some (.int x1), some (.int x2), some (.int x3), some (.int ((M1 73) (x2 : Int32).toNatClampNeg))]) (st' := [.int (-1)]) rfl ?_
          subst H
          exact Ev.ret rfl

set_option maxRecDepth 20000 in
theorem w300_51 {E : gw_N} {M : Mem} {res : Option Value × gw_H} {x1 : Int32} {x3 : Int32} {x4 : Int32} (H : ((x3 = 1 → ((999 ≤ x4 → res = (some (.int x4), hs E M)) ∧ (¬ 999 ≤ x4 → (∃ (r1 : Int32), Rn 298 [.ref 59, .int x1, .int (x4 + 1)] (hs E M) (some (.int r1)) (hs E M) ∧ ((r1 = 0 → Ev 5 300 51 [some (.ref 59), some (.int x1), none, some (.int x3), some (.int (x4 + 1))] [] (hs E M) res) ∧ (¬ r1 = 0 → res = (some (.int x4), hs E M))))))) ∧ (¬ x3 = 1 → res = (some (.int x4), hs E M)))) : Ev 5 300 51 [some (.ref 59), some (.int x1), none, some (.int x3), some (.int x4)] [] (hs E M) res := by
  refine Ev.steps 3 (pc' := if x3 = 1 then 56 else 82) (L' := [some (.ref 59), some (.int x1), none, some (.int x3), some (.int x4)]) (st' := []) rfl ?_
  refine Ev_ite (fun hc => ?_) (fun hc => ?_)
  · replace H := H.1 hc
    refine Ev.steps 3 (pc' := if 999 ≤ x4 then 82 else 64) (L' := [some (.ref 59), some (.int x1), none, some (.int x3), some (.int x4)]) (st' := []) rfl ?_
    refine Ev_ite (fun hc => ?_) (fun hc => ?_)
    · replace H := H.1 hc
      refine Ev.steps 1 (pc' := 84) (L' := [some (.ref 59), some (.int x1), none, some (.int x3), some (.int x4)]) (st' := [.int x4]) rfl ?_
      subst H
      exact Ev.ret rfl
    · replace H := H.2 hc
      refine Ev.steps 5 (pc' := 70) (L' := [some (.ref 59), some (.int x1), none, some (.int x3), some (.int x4)]) (st' := [.int (x4 + 1), .int x1, .ref 59]) rfl ?_
      obtain ⟨r1, hr1, H⟩ := H
      refine Ev.call (y := 298) (args := [.ref 59, .int x1, .int (x4 + 1)]) (rest := []) (r := (some (.int r1))) rfl hr1 ?_
      show Ev 5 300 73 [some (.ref 59), some (.int x1), none, some (.int x3), some (.int x4)] [.int r1] _ _
      refine Ev.steps 1 (pc' := if r1 = 0 then 76 else 82) (L' := [some (.ref 59), some (.int x1), none, some (.int x3), some (.int x4)]) (st' := []) rfl ?_
      refine Ev_ite (fun hc => ?_) (fun hc => ?_)
      · replace H := H.1 hc
        refine Ev.steps 2 (pc' := 51) (L' := [some (.ref 59), some (.int x1), none, some (.int x3), some (.int (x4 + 1))]) (st' := []) rfl ?_
        exact Ev.weak [some (.ref 59), some (.int x1), none, some (.int x3), some (.int (x4 + 1))] (gw_leb_le ⟨rfl, rfl, rfl, rfl, trivial⟩) H
      · replace H := H.2 hc
        refine Ev.steps 1 (pc' := 84) (L' := [some (.ref 59), some (.int x1), none, some (.int x3), some (.int x4)]) (st' := [.int x4]) rfl ?_
        subst H
        exact Ev.ret rfl
  · replace H := H.2 hc
    refine Ev.steps 1 (pc' := 84) (L' := [some (.ref 59), some (.int x1), none, some (.int x3), some (.int x4)]) (st' := [.int x4]) rfl ?_
    subst H
    exact Ev.ret rfl

-- 19 GlassWires$Glass fireAt (I)I
set_option maxRecDepth 20000 in
theorem w19_0 {E : gw_N} {M : Mem} {res : Option Value × gw_H} {x1 : Int32} (H : Ev 6 19 4 [some (.ref 44), some (.int x1), some (.int 0), some (.int 0), none] [] (hs E M) res) : Ev 6 19 0 [some (.ref 44), some (.int x1), none, none, none] [] (hs E M) res := by
  refine Ev.steps 4 (pc' := 4) (L' := [some (.ref 44), some (.int x1), some (.int 0), some (.int 0), none]) (st' := []) rfl ?_
  exact Ev.weak [some (.ref 44), some (.int x1), some (.int 0), some (.int 0), none] (gw_leb_le ⟨rfl, rfl, rfl, rfl, trivial⟩) H

set_option maxRecDepth 20000 in
theorem w19_4 {E : gw_N} {M : Mem} {res : Option Value × gw_H} {x1 : Int32} {x2 : Int32} {x3 : Int32} (H : (((F40 M) ≤ x3 → (∃ (M1 : Mem), Rn 22 [.ref 44] (hs E M) none (hs E M1) ∧ res = (some (.int x2), hs E (up M1 44 (upd (M1 44) 9 (((M1 44) 9) + 1)))))) ∧ (¬ (F40 M) ≤ x3 → Ev 6 19 18 [some (.ref 44), some (.int x1), some (.int x2), some (.int x3), some (.int 0)] [] (hs E M) res))) : Ev 6 19 4 [some (.ref 44), some (.int x1), some (.int x2), some (.int x3), none] [] (hs E M) res := by
  refine Ev.steps 3 (pc' := 9) (L' := [some (.ref 44), some (.int x1), some (.int x2), some (.int x3), none]) (st' := [.ref 9, .int x3]) rfl ?_
  refine Ev.call (y := 40) (args := [.ref 9]) (rest := [.int x3]) (r := some (.int (F40 M))) rfl (s40) ?_
  show Ev 6 19 12 [some (.ref 44), some (.int x1), some (.int x2), some (.int x3), none] [.int (F40 M), .int x3] _ _
  refine Ev.steps 1 (pc' := if (F40 M) ≤ x3 then 71 else 15) (L' := [some (.ref 44), some (.int x1), some (.int x2), some (.int x3), none]) (st' := []) rfl ?_
  refine Ev_ite (fun hc => ?_) (fun hc => ?_)
  · replace H := H.1 hc
    refine Ev.steps 1 (pc' := 72) (L' := [some (.ref 44), some (.int x1), some (.int x2), some (.int x3), none]) (st' := [.ref 44]) rfl ?_
    obtain ⟨M1, hr1, H⟩ := H
    refine Ev.call (y := 22) (args := [.ref 44]) (rest := []) (r := none) rfl hr1 ?_
    show Ev 6 19 75 [some (.ref 44), some (.int x1), some (.int x2), some (.int x3), none] [] _ _
    refine Ev.steps 5 (pc' := 82) (L' := [some (.ref 44), some (.int x1), some (.int x2), some (.int x3), none]) (st' := [.int (((M1 44) 9) + 1), .ref 44]) rfl ?_
    refine Ev.mem (a := 44) (g := (upd (M1 44) 9 (((M1 44) 9) + 1))) (pc' := 85) (L' := [some (.ref 44), some (.int x1), some (.int x2), some (.int x3), none]) (st' := []) (by decide) rfl ?_
    refine Ev.steps 1 (pc' := 86) (L' := [some (.ref 44), some (.int x1), some (.int x2), some (.int x3), none]) (st' := [.int x2]) rfl ?_
    subst H
    exact Ev.ret rfl
  · replace H := H.2 hc
    refine Ev.steps 2 (pc' := 18) (L' := [some (.ref 44), some (.int x1), some (.int x2), some (.int x3), some (.int 0)]) (st' := []) rfl ?_
    exact Ev.weak [some (.ref 44), some (.int x1), some (.int x2), some (.int x3), some (.int 0)] (gw_leb_le ⟨rfl, rfl, rfl, rfl, rfl, trivial⟩) H

set_option maxRecDepth 20000 in
theorem w19_18 {E : gw_N} {M : Mem} {res : Option Value × gw_H} {x1 : Int32} {x2 : Int32} {x3 : Int32} {x4 : Int32} (H : (inb x3 64 ∧ ((((M 45) (x3 : Int32).toNatClampNeg) ≤ x4 → Ev 6 19 4 [some (.ref 44), some (.int x1), some (.int x2), some (.int (x3 + 1)), none] [] (hs E M) res) ∧ (¬ ((M 45) (x3 : Int32).toNatClampNeg) ≤ x4 → (∃ (r1 : Int32) (M1 : Mem), Rn 20 [.ref 44, .int ((12 * x3) + x4), .int x1] (hs E M) (some (.int r1)) (hs E M1) ∧ (∃ (M2 : Mem), Rn 21 [.ref 44, .int ((12 * x3) + x4), .int x1] (hs E M1) none (hs E M2) ∧ Ev 6 19 18 [some (.ref 44), some (.int x1), some (.int (x2 + (F206 M1 r1))), some (.int x3), some (.int (x4 + 1))] [] (hs E M2) res)))))) : Ev 6 19 18 [some (.ref 44), some (.int x1), some (.int x2), some (.int x3), some (.int x4)] [] (hs E M) res := by
  refine Ev.steps 4 (pc' := 25) (L' := [some (.ref 44), some (.int x1), some (.int x2), some (.int x3), some (.int x4)]) (st' := [.int x3, .ref 45, .int x4]) rfl ?_
  refine Ev.rd (i := x3) (n := 64) (pc' := 26) (L' := [some (.ref 44), some (.int x1), some (.int x2), some (.int x3), some (.int x4)]) (st' := [.int ((M 45) (x3 : Int32).toNatClampNeg), .int x4]) H.1 rfl ?_
  replace H := H.2
  refine Ev.steps 1 (pc' := if ((M 45) (x3 : Int32).toNatClampNeg) ≤ x4 then 65 else 29) (L' := [some (.ref 44), some (.int x1), some (.int x2), some (.int x3), some (.int x4)]) (st' := []) rfl ?_
  refine Ev_ite (fun hc => ?_) (fun hc => ?_)
  · replace H := H.1 hc
    refine Ev.steps 2 (pc' := 4) (L' := [some (.ref 44), some (.int x1), some (.int x2), some (.int (x3 + 1)), some (.int x4)]) (st' := []) rfl ?_
    exact Ev.weak [some (.ref 44), some (.int x1), some (.int x2), some (.int (x3 + 1)), none] (gw_leb_le ⟨rfl, rfl, rfl, rfl, trivial⟩) H
  · replace H := H.2 hc
    refine Ev.steps 8 (pc' := 39) (L' := [some (.ref 44), some (.int x1), some (.int x2), some (.int x3), some (.int x4)]) (st' := [.int x1, .int ((12 * x3) + x4), .ref 44, .int x2]) rfl ?_
    obtain ⟨r1, M1, hr1, H⟩ := H
    refine Ev.call (y := 20) (args := [.ref 44, .int ((12 * x3) + x4), .int x1]) (rest := [.int x2]) (r := (some (.int r1))) rfl hr1 ?_
    show Ev 6 19 42 [some (.ref 44), some (.int x1), some (.int x2), some (.int x3), some (.int x4)] [.int r1, .int x2] _ _
    refine Ev.call (y := 206) (args := [.int r1]) (rest := [.int x2]) (r := some (.int (F206 M1 r1))) rfl (s206) ?_
    show Ev 6 19 45 [some (.ref 44), some (.int x1), some (.int x2), some (.int x3), some (.int x4)] [.int (F206 M1 r1), .int x2] _ _
    refine Ev.steps 9 (pc' := 56) (L' := [some (.ref 44), some (.int x1), some (.int (x2 + (F206 M1 r1))), some (.int x3), some (.int x4)]) (st' := [.int x1, .int ((12 * x3) + x4), .ref 44]) rfl ?_
    obtain ⟨M2, hr2, H⟩ := H
    refine Ev.call (y := 21) (args := [.ref 44, .int ((12 * x3) + x4), .int x1]) (rest := []) (r := none) rfl hr2 ?_
    show Ev 6 19 59 [some (.ref 44), some (.int x1), some (.int (x2 + (F206 M1 r1))), some (.int x3), some (.int x4)] [] _ _
    refine Ev.steps 2 (pc' := 18) (L' := [some (.ref 44), some (.int x1), some (.int (x2 + (F206 M1 r1))), some (.int x3), some (.int (x4 + 1))]) (st' := []) rfl ?_
    exact Ev.weak [some (.ref 44), some (.int x1), some (.int (x2 + (F206 M1 r1))), some (.int x3), some (.int (x4 + 1))] (gw_leb_le ⟨rfl, rfl, rfl, rfl, rfl, trivial⟩) H

-- 72 GlassWires$Net isPlace (III)Z
set_option maxRecDepth 20000 in
theorem w72_0 {E : gw_N} {M : Mem} {res : Option Value × gw_H} {x1 : Int32} {x2 : Int32} {x3 : Int32} (H : ((x1 = 1 → (inb (F48 M x2 x3) 89 ∧ ((((M 25) ((F48 M x2 x3) : Int32).toNatClampNeg) < 2 → res = (some (.int 0), hs E M)) ∧ (¬ ((M 25) ((F48 M x2 x3) : Int32).toNatClampNeg) < 2 → res = (some (.int 1), hs E M))))) ∧ (¬ x1 = 1 → (((F42 M x2 x3) = 0 → (∃ (r1 : Int32), Rn 73 [.ref 22, .int x2, .int x3] (hs E M) (some (.int r1)) (hs E M) ∧ ((r1 = 1 → res = (some (.int 1), hs E M)) ∧ (¬ r1 = 1 → res = (some (.int 0), hs E M))))) ∧ (¬ (F42 M x2 x3) = 0 → res = (some (.int 0), hs E M)))))) : Ev 6 72 0 [some (.ref 22), some (.int x1), some (.int x2), some (.int x3)] [] (hs E M) res := by
  refine Ev.steps 3 (pc' := if x1 = 1 then 5 else 25) (L' := [some (.ref 22), some (.int x1), some (.int x2), some (.int x3)]) (st' := []) rfl ?_
  refine Ev_ite (fun hc => ?_) (fun hc => ?_)
  · replace H := H.1 hc
    refine Ev.steps 4 (pc' := 11) (L' := [some (.ref 22), some (.int x1), some (.int x2), some (.int x3)]) (st' := [.int x3, .int x2, .ref 25]) rfl ?_
    refine Ev.call (y := 48) (args := [.int x2, .int x3]) (rest := [.ref 25]) (r := some (.int (F48 M x2 x3))) rfl (s48) ?_
    show Ev 6 72 14 [some (.ref 22), some (.int x1), some (.int x2), some (.int x3)] [.int (F48 M x2 x3), .ref 25] _ _
    refine Ev.rd (i := (F48 M x2 x3)) (n := 89) (pc' := 15) (L' := [some (.ref 22), some (.int x1), some (.int x2), some (.int x3)]) (st' := [.int ((M 25) ((F48 M x2 x3) : Int32).toNatClampNeg)]) H.1 rfl ?_
    replace H := H.2
    refine Ev.steps 2 (pc' := if ((M 25) ((F48 M x2 x3) : Int32).toNatClampNeg) < 2 then 23 else 19) (L' := [some (.ref 22), some (.int x1), some (.int x2), some (.int x3)]) (st' := []) rfl ?_
    refine Ev_ite (fun hc => ?_) (fun hc => ?_)
    · replace H := H.1 hc
      refine Ev.steps 1 (pc' := 24) (L' := [some (.ref 22), some (.int x1), some (.int x2), some (.int x3)]) (st' := [.int 0]) rfl ?_
      subst H
      exact Ev.ret rfl
    · replace H := H.2 hc
      refine Ev.steps 2 (pc' := 24) (L' := [some (.ref 22), some (.int x1), some (.int x2), some (.int x3)]) (st' := [.int 1]) rfl ?_
      subst H
      exact Ev.ret rfl
  · replace H := H.2 hc
    refine Ev.steps 4 (pc' := 31) (L' := [some (.ref 22), some (.int x1), some (.int x2), some (.int x3)]) (st' := [.int x3, .int x2, .ref 9]) rfl ?_
    refine Ev.call (y := 42) (args := [.ref 9, .int x2, .int x3]) (rest := []) (r := some (.int (F42 M x2 x3))) rfl (s42) ?_
    show Ev 6 72 34 [some (.ref 22), some (.int x1), some (.int x2), some (.int x3)] [.int (F42 M x2 x3)] _ _
    refine Ev.steps 1 (pc' := if (F42 M x2 x3) = 0 then 37 else 51) (L' := [some (.ref 22), some (.int x1), some (.int x2), some (.int x3)]) (st' := []) rfl ?_
    refine Ev_ite (fun hc => ?_) (fun hc => ?_)
    · replace H := H.1 hc
      refine Ev.steps 3 (pc' := 40) (L' := [some (.ref 22), some (.int x1), some (.int x2), some (.int x3)]) (st' := [.int x3, .int x2, .ref 22]) rfl ?_
      obtain ⟨r1, hr1, H⟩ := H
      refine Ev.call (y := 73) (args := [.ref 22, .int x2, .int x3]) (rest := []) (r := (some (.int r1))) rfl hr1 ?_
      show Ev 6 72 43 [some (.ref 22), some (.int x1), some (.int x2), some (.int x3)] [.int r1] _ _
      refine Ev.steps 2 (pc' := if r1 = 1 then 47 else 51) (L' := [some (.ref 22), some (.int x1), some (.int x2), some (.int x3)]) (st' := []) rfl ?_
      refine Ev_ite (fun hc => ?_) (fun hc => ?_)
      · replace H := H.1 hc
        refine Ev.steps 2 (pc' := 52) (L' := [some (.ref 22), some (.int x1), some (.int x2), some (.int x3)]) (st' := [.int 1]) rfl ?_
        subst H
        exact Ev.ret rfl
      · replace H := H.2 hc
        refine Ev.steps 1 (pc' := 52) (L' := [some (.ref 22), some (.int x1), some (.int x2), some (.int x3)]) (st' := [.int 0]) rfl ?_
        subst H
        exact Ev.ret rfl
    · replace H := H.2 hc
      refine Ev.steps 1 (pc' := 52) (L' := [some (.ref 22), some (.int x1), some (.int x2), some (.int x3)]) (st' := [.int 0]) rfl ?_
      subst H
      exact Ev.ret rfl

-- 76 GlassWires$Net oddPoints (II)I
set_option maxRecDepth 20000 in
theorem w76_0 {E : gw_N} {M : Mem} {res : Option Value × gw_H} {x1 : Int32} {x2 : Int32} (H : (inb 0 89 ∧ (inb 0 89 ∧ (inb ((upd (M 31) (0 : Int32).toNatClampNeg (F48 M x1 x2)) (0 : Int32).toNatClampNeg) 89 ∧ Ev 6 76 31 [some (.ref 22), none, none, some (.int 0), some (.int 1), some (.int 0), none, none, none, none] [] (hs E (up (up M 31 (upd (M 31) (0 : Int32).toNatClampNeg (F48 M x1 x2))) 30 (upd (M 30) (((upd (M 31) (0 : Int32).toNatClampNeg (F48 M x1 x2)) (0 : Int32).toNatClampNeg) : Int32).toNatClampNeg 1))) res)))) : Ev 6 76 0 [some (.ref 22), some (.int x1), some (.int x2), none, none, none, none, none, none, none] [] (hs E M) res := by
  refine Ev.steps 7 (pc' := 9) (L' := [some (.ref 22), some (.int x1), some (.int x2), some (.int 0), none, none, none, none, none, none]) (st' := [.int x2, .int x1, .int 0, .ref 31]) rfl ?_
  refine Ev.call (y := 48) (args := [.int x1, .int x2]) (rest := [.int 0, .ref 31]) (r := some (.int (F48 M x1 x2))) rfl (s48) ?_
  show Ev 6 76 12 [some (.ref 22), some (.int x1), some (.int x2), some (.int 0), none, none, none, none, none, none] [.int (F48 M x1 x2), .int 0, .ref 31] _ _
  refine Ev.wr (a := 31) (g := (upd (M 31) (0 : Int32).toNatClampNeg (F48 M x1 x2))) (i := 0) (n := 89) (pc' := 13) (L' := [some (.ref 22), some (.int x1), some (.int x2), some (.int 0), none, none, none, none, none, none]) (st' := []) (by decide) H.1 rfl ?_
  replace H := H.2
  refine Ev.steps 5 (pc' := 22) (L' := [some (.ref 22), some (.int x1), some (.int x2), some (.int 0), none, none, none, none, none, none]) (st' := [.int 0, .ref 31, .ref 30]) rfl ?_
  refine Ev.rd (i := 0) (n := 89) (pc' := 23) (L' := [some (.ref 22), some (.int x1), some (.int x2), some (.int 0), none, none, none, none, none, none]) (st' := [.int ((upd (M 31) (0 : Int32).toNatClampNeg (F48 M x1 x2)) (0 : Int32).toNatClampNeg), .ref 30]) H.1 rfl ?_
  replace H := H.2
  refine Ev.steps 1 (pc' := 24) (L' := [some (.ref 22), some (.int x1), some (.int x2), some (.int 0), none, none, none, none, none, none]) (st' := [.int 1, .int ((upd (M 31) (0 : Int32).toNatClampNeg (F48 M x1 x2)) (0 : Int32).toNatClampNeg), .ref 30]) rfl ?_
  refine Ev.wr (a := 30) (g := (upd (M 30) (((upd (M 31) (0 : Int32).toNatClampNeg (F48 M x1 x2)) (0 : Int32).toNatClampNeg) : Int32).toNatClampNeg 1)) (i := ((upd (M 31) (0 : Int32).toNatClampNeg (F48 M x1 x2)) (0 : Int32).toNatClampNeg)) (n := 89) (pc' := 25) (L' := [some (.ref 22), some (.int x1), some (.int x2), some (.int 0), none, none, none, none, none, none]) (st' := []) (by decide) H.1 rfl ?_
  replace H := H.2
  refine Ev.steps 4 (pc' := 31) (L' := [some (.ref 22), some (.int x1), some (.int x2), some (.int 0), some (.int 1), some (.int 0), none, none, none, none]) (st' := []) rfl ?_
  exact Ev.weak [some (.ref 22), none, none, some (.int 0), some (.int 1), some (.int 0), none, none, none, none] (gw_leb_le ⟨rfl, rfl, rfl, rfl, trivial⟩) H

set_option maxRecDepth 20000 in
theorem w76_31 {E : gw_N} {M : Mem} {res : Option Value × gw_H} {x3 : Int32} {x4 : Int32} {x5 : Int32} (H : ((x4 ≤ x5 → res = (some (.int x3), hs E M)) ∧ (¬ x4 ≤ x5 → ((89 ≤ x5 → res = (some (.int x3), hs E M)) ∧ (¬ 89 ≤ x5 → (inb x5 89 ∧ (inb x5 89 ∧ (∃ (r1 : Int32), Rn 73 [.ref 22, .int (F49 M ((M 31) (x5 : Int32).toNatClampNeg)), .int (F50 M ((M 31) (x5 : Int32).toNatClampNeg))] (hs E M) (some (.int r1)) (hs E M) ∧ Ev 6 76 85 [some (.ref 22), none, none, some (.int (x3 + (r1 &&& 1))), some (.int x4), some (.int x5), some (.int (F49 M ((M 31) (x5 : Int32).toNatClampNeg))), some (.int (F50 M ((M 31) (x5 : Int32).toNatClampNeg))), some (.int 0), none] [] (hs E M) res)))))))) : Ev 6 76 31 [some (.ref 22), none, none, some (.int x3), some (.int x4), some (.int x5), none, none, none, none] [] (hs E M) res := by
  refine Ev.steps 3 (pc' := if x4 ≤ x5 then 174 else 38) (L' := [some (.ref 22), none, none, some (.int x3), some (.int x4), some (.int x5), none, none, none, none]) (st' := []) rfl ?_
  refine Ev_ite (fun hc => ?_) (fun hc => ?_)
  · replace H := H.1 hc
    refine Ev.steps 1 (pc' := 175) (L' := [some (.ref 22), none, none, some (.int x3), some (.int x4), some (.int x5), none, none, none, none]) (st' := [.int x3]) rfl ?_
    subst H
    exact Ev.ret rfl
  · replace H := H.2 hc
    refine Ev.steps 3 (pc' := if 89 ≤ x5 then 174 else 45) (L' := [some (.ref 22), none, none, some (.int x3), some (.int x4), some (.int x5), none, none, none, none]) (st' := []) rfl ?_
    refine Ev_ite (fun hc => ?_) (fun hc => ?_)
    · replace H := H.1 hc
      refine Ev.steps 1 (pc' := 175) (L' := [some (.ref 22), none, none, some (.int x3), some (.int x4), some (.int x5), none, none, none, none]) (st' := [.int x3]) rfl ?_
      subst H
      exact Ev.ret rfl
    · replace H := H.2 hc
      refine Ev.steps 3 (pc' := 51) (L' := [some (.ref 22), none, none, some (.int x3), some (.int x4), some (.int x5), none, none, none, none]) (st' := [.int x5, .ref 31]) rfl ?_
      refine Ev.rd (i := x5) (n := 89) (pc' := 52) (L' := [some (.ref 22), none, none, some (.int x3), some (.int x4), some (.int x5), none, none, none, none]) (st' := [.int ((M 31) (x5 : Int32).toNatClampNeg)]) H.1 rfl ?_
      replace H := H.2
      refine Ev.call (y := 49) (args := [.int ((M 31) (x5 : Int32).toNatClampNeg)]) (rest := []) (r := some (.int (F49 M ((M 31) (x5 : Int32).toNatClampNeg)))) rfl (s49) ?_
      show Ev 6 76 55 [some (.ref 22), none, none, some (.int x3), some (.int x4), some (.int x5), none, none, none, none] [.int (F49 M ((M 31) (x5 : Int32).toNatClampNeg))] _ _
      refine Ev.steps 4 (pc' := 63) (L' := [some (.ref 22), none, none, some (.int x3), some (.int x4), some (.int x5), some (.int (F49 M ((M 31) (x5 : Int32).toNatClampNeg))), none, none, none]) (st' := [.int x5, .ref 31]) rfl ?_
      refine Ev.rd (i := x5) (n := 89) (pc' := 64) (L' := [some (.ref 22), none, none, some (.int x3), some (.int x4), some (.int x5), some (.int (F49 M ((M 31) (x5 : Int32).toNatClampNeg))), none, none, none]) (st' := [.int ((M 31) (x5 : Int32).toNatClampNeg)]) H.1 rfl ?_
      replace H := H.2
      refine Ev.call (y := 50) (args := [.int ((M 31) (x5 : Int32).toNatClampNeg)]) (rest := []) (r := some (.int (F50 M ((M 31) (x5 : Int32).toNatClampNeg)))) rfl (s50) ?_
      show Ev 6 76 67 [some (.ref 22), none, none, some (.int x3), some (.int x4), some (.int x5), some (.int (F49 M ((M 31) (x5 : Int32).toNatClampNeg))), none, none, none] [.int (F50 M ((M 31) (x5 : Int32).toNatClampNeg))] _ _
      refine Ev.steps 5 (pc' := 75) (L' := [some (.ref 22), none, none, some (.int x3), some (.int x4), some (.int x5), some (.int (F49 M ((M 31) (x5 : Int32).toNatClampNeg))), some (.int (F50 M ((M 31) (x5 : Int32).toNatClampNeg))), none, none]) (st' := [.int (F50 M ((M 31) (x5 : Int32).toNatClampNeg)), .int (F49 M ((M 31) (x5 : Int32).toNatClampNeg)), .ref 22, .int x3]) rfl ?_
      obtain ⟨r1, hr1, H⟩ := H
      refine Ev.call (y := 73) (args := [.ref 22, .int (F49 M ((M 31) (x5 : Int32).toNatClampNeg)), .int (F50 M ((M 31) (x5 : Int32).toNatClampNeg))]) (rest := [.int x3]) (r := (some (.int r1))) rfl hr1 ?_
      show Ev 6 76 78 [some (.ref 22), none, none, some (.int x3), some (.int x4), some (.int x5), some (.int (F49 M ((M 31) (x5 : Int32).toNatClampNeg))), some (.int (F50 M ((M 31) (x5 : Int32).toNatClampNeg))), none, none] [.int r1, .int x3] _ _
      refine Ev.steps 6 (pc' := 85) (L' := [some (.ref 22), none, none, some (.int (x3 + (r1 &&& 1))), some (.int x4), some (.int x5), some (.int (F49 M ((M 31) (x5 : Int32).toNatClampNeg))), some (.int (F50 M ((M 31) (x5 : Int32).toNatClampNeg))), some (.int 0), none]) (st' := []) rfl ?_
      exact Ev.weak [some (.ref 22), none, none, some (.int (x3 + (r1 &&& 1))), some (.int x4), some (.int x5), some (.int (F49 M ((M 31) (x5 : Int32).toNatClampNeg))), some (.int (F50 M ((M 31) (x5 : Int32).toNatClampNeg))), some (.int 0), none] (gw_leb_le ⟨rfl, rfl, rfl, rfl, rfl, rfl, rfl, trivial⟩) H

set_option maxRecDepth 20000 in
theorem w76_85 {E : gw_N} {M : Mem} {res : Option Value × gw_H} {x3 : Int32} {x4 : Int32} {x5 : Int32} {x6 : Int32} {x7 : Int32} {x8 : Int32} (H : ((4 ≤ x8 → Ev 6 76 31 [some (.ref 22), none, none, some (.int x3), some (.int x4), some (.int (x5 + 1)), none, none, none, none] [] (hs E M) res) ∧ (¬ 4 ≤ x8 → (P74 M x6 x7 x8 ∧ (((F74 M x6 x7 x8) = 0 → Ev 6 76 85 [some (.ref 22), none, none, some (.int x3), some (.int x4), some (.int x5), some (.int x6), some (.int x7), some (.int (x8 + 1)), none] [] (hs E M) res) ∧ (¬ (F74 M x6 x7 x8) = 0 → (inb (F48 M (x6 + (F53 M x8)) (x7 + (F54 M x8))) 89 ∧ ((((M 30) ((F48 M (x6 + (F53 M x8)) (x7 + (F54 M x8))) : Int32).toNatClampNeg) = 0 → ((89 ≤ x4 → Ev 6 76 85 [some (.ref 22), none, none, some (.int x3), some (.int x4), some (.int x5), some (.int x6), some (.int x7), some (.int (x8 + 1)), none] [] (hs E M) res) ∧ (¬ 89 ≤ x4 → (inb (F48 M (x6 + (F53 M x8)) (x7 + (F54 M x8))) 89 ∧ (inb x4 89 ∧ Ev 6 76 85 [some (.ref 22), none, none, some (.int x3), some (.int (x4 + 1)), some (.int x5), some (.int x6), some (.int x7), some (.int (x8 + 1)), none] [] (hs E (up (up M 30 (upd (M 30) ((F48 M (x6 + (F53 M x8)) (x7 + (F54 M x8))) : Int32).toNatClampNeg 1)) 31 (upd (M 31) (x4 : Int32).toNatClampNeg (F48 M (x6 + (F53 M x8)) (x7 + (F54 M x8)))))) res))))) ∧ (¬ ((M 30) ((F48 M (x6 + (F53 M x8)) (x7 + (F54 M x8))) : Int32).toNatClampNeg) = 0 → Ev 6 76 85 [some (.ref 22), none, none, some (.int x3), some (.int x4), some (.int x5), some (.int x6), some (.int x7), some (.int (x8 + 1)), none] [] (hs E M) res))))))))) : Ev 6 76 85 [some (.ref 22), none, none, some (.int x3), some (.int x4), some (.int x5), some (.int x6), some (.int x7), some (.int x8), none] [] (hs E M) res := by
  refine Ev.steps 3 (pc' := if 4 ≤ x8 then 168 else 91) (L' := [some (.ref 22), none, none, some (.int x3), some (.int x4), some (.int x5), some (.int x6), some (.int x7), some (.int x8), none]) (st' := []) rfl ?_
  refine Ev_ite (fun hc => ?_) (fun hc => ?_)
  · replace H := H.1 hc
    refine Ev.steps 2 (pc' := 31) (L' := [some (.ref 22), none, none, some (.int x3), some (.int x4), some (.int (x5 + 1)), some (.int x6), some (.int x7), some (.int x8), none]) (st' := []) rfl ?_
    exact Ev.weak [some (.ref 22), none, none, some (.int x3), some (.int x4), some (.int (x5 + 1)), none, none, none, none] (gw_leb_le ⟨rfl, rfl, rfl, rfl, trivial⟩) H
  · replace H := H.2 hc
    refine Ev.steps 2 (pc' := 95) (L' := [some (.ref 22), none, none, some (.int x3), some (.int x4), some (.int x5), some (.int x6), some (.int x7), some (.int x8), none]) (st' := [.int x8, .int x6]) rfl ?_
    refine Ev.call (y := 53) (args := [.int x8]) (rest := [.int x6]) (r := some (.int (F53 M x8))) rfl (s53) ?_
    show Ev 6 76 98 [some (.ref 22), none, none, some (.int x3), some (.int x4), some (.int x5), some (.int x6), some (.int x7), some (.int x8), none] [.int (F53 M x8), .int x6] _ _
    refine Ev.steps 3 (pc' := 103) (L' := [some (.ref 22), none, none, some (.int x3), some (.int x4), some (.int x5), some (.int x6), some (.int x7), some (.int x8), none]) (st' := [.int x8, .int x7, .int (x6 + (F53 M x8))]) rfl ?_
    refine Ev.call (y := 54) (args := [.int x8]) (rest := [.int x7, .int (x6 + (F53 M x8))]) (r := some (.int (F54 M x8))) rfl (s54) ?_
    show Ev 6 76 106 [some (.ref 22), none, none, some (.int x3), some (.int x4), some (.int x5), some (.int x6), some (.int x7), some (.int x8), none] [.int (F54 M x8), .int x7, .int (x6 + (F53 M x8))] _ _
    refine Ev.steps 1 (pc' := 107) (L' := [some (.ref 22), none, none, some (.int x3), some (.int x4), some (.int x5), some (.int x6), some (.int x7), some (.int x8), none]) (st' := [.int (x7 + (F54 M x8)), .int (x6 + (F53 M x8))]) rfl ?_
    refine Ev.call (y := 48) (args := [.int (x6 + (F53 M x8)), .int (x7 + (F54 M x8))]) (rest := []) (r := some (.int (F48 M (x6 + (F53 M x8)) (x7 + (F54 M x8))))) rfl (s48) ?_
    show Ev 6 76 110 [some (.ref 22), none, none, some (.int x3), some (.int x4), some (.int x5), some (.int x6), some (.int x7), some (.int x8), none] [.int (F48 M (x6 + (F53 M x8)) (x7 + (F54 M x8)))] _ _
    refine Ev.steps 5 (pc' := 119) (L' := [some (.ref 22), none, none, some (.int x3), some (.int x4), some (.int x5), some (.int x6), some (.int x7), some (.int x8), some (.int (F48 M (x6 + (F53 M x8)) (x7 + (F54 M x8))))]) (st' := [.int x8, .int x7, .int x6, .ref 22]) rfl ?_
    refine Ev.call (y := 74) (args := [.ref 22, .int x6, .int x7, .int x8]) (rest := []) (r := some (.int (F74 M x6 x7 x8))) rfl (s74 H.1) ?_
    replace H := H.2
    show Ev 6 76 122 [some (.ref 22), none, none, some (.int x3), some (.int x4), some (.int x5), some (.int x6), some (.int x7), some (.int x8), some (.int (F48 M (x6 + (F53 M x8)) (x7 + (F54 M x8))))] [.int (F74 M x6 x7 x8)] _ _
    refine Ev.steps 1 (pc' := if (F74 M x6 x7 x8) = 0 then 162 else 125) (L' := [some (.ref 22), none, none, some (.int x3), some (.int x4), some (.int x5), some (.int x6), some (.int x7), some (.int x8), some (.int (F48 M (x6 + (F53 M x8)) (x7 + (F54 M x8))))]) (st' := []) rfl ?_
    refine Ev_ite (fun hc => ?_) (fun hc => ?_)
    · replace H := H.1 hc
      refine Ev.steps 2 (pc' := 85) (L' := [some (.ref 22), none, none, some (.int x3), some (.int x4), some (.int x5), some (.int x6), some (.int x7), some (.int (x8 + 1)), some (.int (F48 M (x6 + (F53 M x8)) (x7 + (F54 M x8))))]) (st' := []) rfl ?_
      exact Ev.weak [some (.ref 22), none, none, some (.int x3), some (.int x4), some (.int x5), some (.int x6), some (.int x7), some (.int (x8 + 1)), none] (gw_leb_le ⟨rfl, rfl, rfl, rfl, rfl, rfl, rfl, trivial⟩) H
    · replace H := H.2 hc
      refine Ev.steps 3 (pc' := 131) (L' := [some (.ref 22), none, none, some (.int x3), some (.int x4), some (.int x5), some (.int x6), some (.int x7), some (.int x8), some (.int (F48 M (x6 + (F53 M x8)) (x7 + (F54 M x8))))]) (st' := [.int (F48 M (x6 + (F53 M x8)) (x7 + (F54 M x8))), .ref 30]) rfl ?_
      refine Ev.rd (i := (F48 M (x6 + (F53 M x8)) (x7 + (F54 M x8)))) (n := 89) (pc' := 132) (L' := [some (.ref 22), none, none, some (.int x3), some (.int x4), some (.int x5), some (.int x6), some (.int x7), some (.int x8), some (.int (F48 M (x6 + (F53 M x8)) (x7 + (F54 M x8))))]) (st' := [.int ((M 30) ((F48 M (x6 + (F53 M x8)) (x7 + (F54 M x8))) : Int32).toNatClampNeg)]) H.1 rfl ?_
      replace H := H.2
      refine Ev.steps 1 (pc' := if ((M 30) ((F48 M (x6 + (F53 M x8)) (x7 + (F54 M x8))) : Int32).toNatClampNeg) = 0 then 135 else 162) (L' := [some (.ref 22), none, none, some (.int x3), some (.int x4), some (.int x5), some (.int x6), some (.int x7), some (.int x8), some (.int (F48 M (x6 + (F53 M x8)) (x7 + (F54 M x8))))]) (st' := []) rfl ?_
      refine Ev_ite (fun hc => ?_) (fun hc => ?_)
      · replace H := H.1 hc
        refine Ev.steps 3 (pc' := if 89 ≤ x4 then 162 else 142) (L' := [some (.ref 22), none, none, some (.int x3), some (.int x4), some (.int x5), some (.int x6), some (.int x7), some (.int x8), some (.int (F48 M (x6 + (F53 M x8)) (x7 + (F54 M x8))))]) (st' := []) rfl ?_
        refine Ev_ite (fun hc => ?_) (fun hc => ?_)
        · replace H := H.1 hc
          refine Ev.steps 2 (pc' := 85) (L' := [some (.ref 22), none, none, some (.int x3), some (.int x4), some (.int x5), some (.int x6), some (.int x7), some (.int (x8 + 1)), some (.int (F48 M (x6 + (F53 M x8)) (x7 + (F54 M x8))))]) (st' := []) rfl ?_
          exact Ev.weak [some (.ref 22), none, none, some (.int x3), some (.int x4), some (.int x5), some (.int x6), some (.int x7), some (.int (x8 + 1)), none] (gw_leb_le ⟨rfl, rfl, rfl, rfl, rfl, rfl, rfl, trivial⟩) H
        · replace H := H.2 hc
          refine Ev.steps 4 (pc' := 149) (L' := [some (.ref 22), none, none, some (.int x3), some (.int x4), some (.int x5), some (.int x6), some (.int x7), some (.int x8), some (.int (F48 M (x6 + (F53 M x8)) (x7 + (F54 M x8))))]) (st' := [.int 1, .int (F48 M (x6 + (F53 M x8)) (x7 + (F54 M x8))), .ref 30]) rfl ?_
          refine Ev.wr (a := 30) (g := (upd (M 30) ((F48 M (x6 + (F53 M x8)) (x7 + (F54 M x8))) : Int32).toNatClampNeg 1)) (i := (F48 M (x6 + (F53 M x8)) (x7 + (F54 M x8)))) (n := 89) (pc' := 150) (L' := [some (.ref 22), none, none, some (.int x3), some (.int x4), some (.int x5), some (.int x6), some (.int x7), some (.int x8), some (.int (F48 M (x6 + (F53 M x8)) (x7 + (F54 M x8))))]) (st' := []) (by decide) H.1 rfl ?_
          replace H := H.2
          refine Ev.steps 4 (pc' := 158) (L' := [some (.ref 22), none, none, some (.int x3), some (.int x4), some (.int x5), some (.int x6), some (.int x7), some (.int x8), some (.int (F48 M (x6 + (F53 M x8)) (x7 + (F54 M x8))))]) (st' := [.int (F48 M (x6 + (F53 M x8)) (x7 + (F54 M x8))), .int x4, .ref 31]) rfl ?_
          refine Ev.wr (a := 31) (g := (upd (M 31) (x4 : Int32).toNatClampNeg (F48 M (x6 + (F53 M x8)) (x7 + (F54 M x8))))) (i := x4) (n := 89) (pc' := 159) (L' := [some (.ref 22), none, none, some (.int x3), some (.int x4), some (.int x5), some (.int x6), some (.int x7), some (.int x8), some (.int (F48 M (x6 + (F53 M x8)) (x7 + (F54 M x8))))]) (st' := []) (by decide) H.1 rfl ?_
          replace H := H.2
          refine Ev.steps 3 (pc' := 85) (L' := [some (.ref 22), none, none, some (.int x3), some (.int (x4 + 1)), some (.int x5), some (.int x6), some (.int x7), some (.int (x8 + 1)), some (.int (F48 M (x6 + (F53 M x8)) (x7 + (F54 M x8))))]) (st' := []) rfl ?_
          exact Ev.weak [some (.ref 22), none, none, some (.int x3), some (.int (x4 + 1)), some (.int x5), some (.int x6), some (.int x7), some (.int (x8 + 1)), none] (gw_leb_le ⟨rfl, rfl, rfl, rfl, rfl, rfl, rfl, trivial⟩) H
      · replace H := H.2 hc
        refine Ev.steps 2 (pc' := 85) (L' := [some (.ref 22), none, none, some (.int x3), some (.int x4), some (.int x5), some (.int x6), some (.int x7), some (.int (x8 + 1)), some (.int (F48 M (x6 + (F53 M x8)) (x7 + (F54 M x8))))]) (st' := []) rfl ?_
        exact Ev.weak [some (.ref 22), none, none, some (.int x3), some (.int x4), some (.int x5), some (.int x6), some (.int x7), some (.int (x8 + 1)), none] (gw_leb_le ⟨rfl, rfl, rfl, rfl, rfl, rfl, rfl, trivial⟩) H

-- 138 GlassWires$Tension coolingSteps (I)I
set_option maxRecDepth 20000 in
theorem w138_0 {E : gw_N} {M : Mem} {res : Option Value × gw_H} {x1 : Int32} (H : ((x1 = 0 → res = (some (.int 0), hs E M)) ∧ (¬ x1 = 0 → (∃ (r1 : Int32), Rn 137 [.ref 53, .int x1] (hs E M) (some (.int r1)) (hs E M) ∧ ((r1 ≤ 0 → res = (some (.int (-1)), hs E M)) ∧ (¬ r1 ≤ 0 → (¬ r1 = 0 ∧ res = (some (.int (((x1 + r1) - 1) / r1)), hs E M)))))))) : Ev 6 138 0 [some (.ref 53), some (.int x1), none] [] (hs E M) res := by
  refine Ev.steps 2 (pc' := if x1 = 0 then 4 else 6) (L' := [some (.ref 53), some (.int x1), none]) (st' := []) rfl ?_
  refine Ev_ite (fun hc => ?_) (fun hc => ?_)
  · replace H := H.1 hc
    refine Ev.steps 1 (pc' := 5) (L' := [some (.ref 53), some (.int x1), none]) (st' := [.int 0]) rfl ?_
    subst H
    exact Ev.ret rfl
  · replace H := H.2 hc
    refine Ev.steps 2 (pc' := 8) (L' := [some (.ref 53), some (.int x1), none]) (st' := [.int x1, .ref 53]) rfl ?_
    obtain ⟨r1, hr1, H⟩ := H
    refine Ev.call (y := 137) (args := [.ref 53, .int x1]) (rest := []) (r := (some (.int r1))) rfl hr1 ?_
    show Ev 6 138 11 [some (.ref 53), some (.int x1), none] [.int r1] _ _
    refine Ev.steps 3 (pc' := if r1 ≤ 0 then 26 else 16) (L' := [some (.ref 53), some (.int x1), some (.int r1)]) (st' := []) rfl ?_
    refine Ev_ite (fun hc => ?_) (fun hc => ?_)
    · replace H := H.1 hc
      refine Ev.steps 1 (pc' := 27) (L' := [some (.ref 53), some (.int x1), some (.int r1)]) (st' := [.int (-1)]) rfl ?_
      subst H
      exact Ev.ret rfl
    · replace H := H.2 hc
      refine Ev.steps 6 (pc' := 22) (L' := [some (.ref 53), some (.int x1), some (.int r1)]) (st' := [.int r1, .int ((x1 + r1) - 1)]) rfl ?_
      refine Ev.dv (y := r1) (pc' := 23) (L' := [some (.ref 53), some (.int x1), some (.int r1)]) (st' := [.int (((x1 + r1) - 1) / r1)]) H.1 rfl ?_
      replace H := H.2
      refine Ev.steps 1 (pc' := 27) (L' := [some (.ref 53), some (.int x1), some (.int r1)]) (st' := [.int (((x1 + r1) - 1) / r1)]) rfl ?_
      subst H
      exact Ev.ret rfl

-- 186 GlassWires state (I)I
set_option maxRecDepth 20000 in
theorem w186_0 {E : gw_N} {M : Mem} {res : Option Value × gw_H} {x1 : Int32} (H : ((x1 = 0 → (∃ (r1 : Int32), Rn 26 [.ref 44, .int 0] (hs E M) (some (.int r1)) (hs E M) ∧ res = (some (.int r1), hs E M))) ∧ (x1 = 1 → (∃ (r2 : Int32), Rn 26 [.ref 44, .int 1] (hs E M) (some (.int r2)) (hs E M) ∧ res = (some (.int r2), hs E M))) ∧ (x1 = 2 → (∃ (r3 : Int32), Rn 26 [.ref 44, .int 2] (hs E M) (some (.int r3)) (hs E M) ∧ res = (some (.int r3), hs E M))) ∧ (x1 = 3 → (∃ (r4 : Int32), Rn 27 [.ref 44] (hs E M) (some (.int r4)) (hs E M) ∧ res = (some (.int r4), hs E M))) ∧ (x1 = 4 → (∃ (r5 : Int32), Rn 28 [.ref 44] (hs E M) (some (.int r5)) (hs E M) ∧ res = (some (.int r5), hs E M))) ∧ (x1 = 5 → res = (some (.int (F10 M)), hs E M)) ∧ (¬ x1 = 0 → ¬ x1 = 1 → ¬ x1 = 2 → ¬ x1 = 3 → ¬ x1 = 4 → ¬ x1 = 5 → res = (some (.int (-102)), hs E M)))) : Ev 6 186 0 [some (.ref 8), some (.int x1)] [] (hs E M) res := by
  refine Ev.steps 1 (pc' := 1) (L' := [some (.ref 8), some (.int x1)]) (st' := [.int x1]) rfl ?_
  by_cases hw0 : x1 = 0
  · replace H := H.1 hw0
    refine Ev.sw (p := gw_tsw 1 90 0 5 #[39, 48, 57, 66, 74, 82] x1) (pc' := 40) (L' := [some (.ref 8), some (.int x1)]) (st' := []) rfl (by rw [hw0]; decide +kernel) ?_
    refine Ev.steps 3 (pc' := 45) (L' := [some (.ref 8), some (.int x1)]) (st' := [.int 0, .ref 44]) rfl ?_
    obtain ⟨r1, hr1, H⟩ := H
    refine Ev.call (y := 26) (args := [.ref 44, .int 0]) (rest := []) (r := (some (.int r1))) rfl hr1 ?_
    show Ev 6 186 48 [some (.ref 8), some (.int x1)] [.int r1] _ _
    subst H
    exact Ev.ret rfl
  replace H := H.2
  by_cases hw1 : x1 = 1
  · replace H := H.1 hw1
    refine Ev.sw (p := gw_tsw 1 90 0 5 #[39, 48, 57, 66, 74, 82] x1) (pc' := 49) (L' := [some (.ref 8), some (.int x1)]) (st' := []) rfl (by rw [hw1]; decide +kernel) ?_
    refine Ev.steps 3 (pc' := 54) (L' := [some (.ref 8), some (.int x1)]) (st' := [.int 1, .ref 44]) rfl ?_
    obtain ⟨r2, hr2, H⟩ := H
    refine Ev.call (y := 26) (args := [.ref 44, .int 1]) (rest := []) (r := (some (.int r2))) rfl hr2 ?_
    show Ev 6 186 57 [some (.ref 8), some (.int x1)] [.int r2] _ _
    subst H
    exact Ev.ret rfl
  replace H := H.2
  by_cases hw2 : x1 = 2
  · replace H := H.1 hw2
    refine Ev.sw (p := gw_tsw 1 90 0 5 #[39, 48, 57, 66, 74, 82] x1) (pc' := 58) (L' := [some (.ref 8), some (.int x1)]) (st' := []) rfl (by rw [hw2]; decide +kernel) ?_
    refine Ev.steps 3 (pc' := 63) (L' := [some (.ref 8), some (.int x1)]) (st' := [.int 2, .ref 44]) rfl ?_
    obtain ⟨r3, hr3, H⟩ := H
    refine Ev.call (y := 26) (args := [.ref 44, .int 2]) (rest := []) (r := (some (.int r3))) rfl hr3 ?_
    show Ev 6 186 66 [some (.ref 8), some (.int x1)] [.int r3] _ _
    subst H
    exact Ev.ret rfl
  replace H := H.2
  by_cases hw3 : x1 = 3
  · replace H := H.1 hw3
    refine Ev.sw (p := gw_tsw 1 90 0 5 #[39, 48, 57, 66, 74, 82] x1) (pc' := 67) (L' := [some (.ref 8), some (.int x1)]) (st' := []) rfl (by rw [hw3]; decide +kernel) ?_
    refine Ev.steps 2 (pc' := 71) (L' := [some (.ref 8), some (.int x1)]) (st' := [.ref 44]) rfl ?_
    obtain ⟨r4, hr4, H⟩ := H
    refine Ev.call (y := 27) (args := [.ref 44]) (rest := []) (r := (some (.int r4))) rfl hr4 ?_
    show Ev 6 186 74 [some (.ref 8), some (.int x1)] [.int r4] _ _
    subst H
    exact Ev.ret rfl
  replace H := H.2
  by_cases hw4 : x1 = 4
  · replace H := H.1 hw4
    refine Ev.sw (p := gw_tsw 1 90 0 5 #[39, 48, 57, 66, 74, 82] x1) (pc' := 75) (L' := [some (.ref 8), some (.int x1)]) (st' := []) rfl (by rw [hw4]; decide +kernel) ?_
    refine Ev.steps 2 (pc' := 79) (L' := [some (.ref 8), some (.int x1)]) (st' := [.ref 44]) rfl ?_
    obtain ⟨r5, hr5, H⟩ := H
    refine Ev.call (y := 28) (args := [.ref 44]) (rest := []) (r := (some (.int r5))) rfl hr5 ?_
    show Ev 6 186 82 [some (.ref 8), some (.int x1)] [.int r5] _ _
    subst H
    exact Ev.ret rfl
  replace H := H.2
  by_cases hw5 : x1 = 5
  · replace H := H.1 hw5
    refine Ev.sw (p := gw_tsw 1 90 0 5 #[39, 48, 57, 66, 74, 82] x1) (pc' := 83) (L' := [some (.ref 8), some (.int x1)]) (st' := []) rfl (by rw [hw5]; decide +kernel) ?_
    refine Ev.steps 2 (pc' := 87) (L' := [some (.ref 8), some (.int x1)]) (st' := [.ref 44]) rfl ?_
    refine Ev.call (y := 10) (args := [.ref 44]) (rest := []) (r := some (.int (F10 M))) rfl (s10) ?_
    show Ev 6 186 90 [some (.ref 8), some (.int x1)] [.int (F10 M)] _ _
    subst H
    exact Ev.ret rfl
  replace H := H.2
  replace H := H hw0 hw1 hw2 hw3 hw4 hw5
  refine Ev.sw (p := gw_tsw 1 90 0 5 #[39, 48, 57, 66, 74, 82] x1) (pc' := 91) (L' := [some (.ref 8), some (.int x1)]) (st' := []) rfl (gw_ts_df (by decide +kernel) (by
      intro k h1 h2
      have h3 : k = 0 ∨ k = 1 ∨ k = 2 ∨ k = 3 ∨ k = 4 ∨ k = 5 := by omega
      rcases h3 with rfl | rfl | rfl | rfl | rfl | rfl
      · exact fun h => hw0 (h.trans (by decide +kernel))
      · exact fun h => hw1 (h.trans (by decide +kernel))
      · exact fun h => hw2 (h.trans (by decide +kernel))
      · exact fun h => hw3 (h.trans (by decide +kernel))
      · exact fun h => hw4 (h.trans (by decide +kernel))
      · exact fun h => hw5 (h.trans (by decide +kernel)))) ?_
  refine Ev.steps 1 (pc' := 93) (L' := [some (.ref 8), some (.int x1)]) (st' := [.int (-102)]) rfl ?_
  subst H
  exact Ev.ret rfl

-- 192 GlassWires bow (I)I
set_option maxRecDepth 20000 in
theorem w192_0 {E : gw_N} {M : Mem} {res : Option Value × gw_H} {x1 : Int32} (H : ((x1 = 0 → (∃ (r1 : Int32), Rn 132 [.ref 53] (hs E M) (some (.int r1)) (hs E M) ∧ res = (some (.int r1), hs E M))) ∧ (x1 = 1 → (∃ (r2 : Int32), Rn 134 [.ref 53] (hs E M) (some (.int r2)) (hs E M) ∧ res = (some (.int r2), hs E M))) ∧ (¬ x1 = 0 → ¬ x1 = 1 → res = (some (.int (-1000001)), hs E M)))) : Ev 6 192 0 [some (.ref 8), some (.int x1)] [] (hs E M) res := by
  refine Ev.steps 1 (pc' := 1) (L' := [some (.ref 8), some (.int x1)]) (st' := [.int x1]) rfl ?_
  by_cases hw0 : x1 = 0
  · replace H := H.1 hw0
    refine Ev.sw (p := ((1 : Nat) + Op.lookupswitch.offset [(0, 27), (1, 35)] 43 (x1 : Int32).toInt : Int).toNat) (pc' := 28) (L' := [some (.ref 8), some (.int x1)]) (st' := []) rfl (by rw [hw0]; decide +kernel) ?_
    refine Ev.steps 2 (pc' := 32) (L' := [some (.ref 8), some (.int x1)]) (st' := [.ref 53]) rfl ?_
    obtain ⟨r1, hr1, H⟩ := H
    refine Ev.call (y := 132) (args := [.ref 53]) (rest := []) (r := (some (.int r1))) rfl hr1 ?_
    show Ev 6 192 35 [some (.ref 8), some (.int x1)] [.int r1] _ _
    subst H
    exact Ev.ret rfl
  replace H := H.2
  by_cases hw1 : x1 = 1
  · replace H := H.1 hw1
    refine Ev.sw (p := ((1 : Nat) + Op.lookupswitch.offset [(0, 27), (1, 35)] 43 (x1 : Int32).toInt : Int).toNat) (pc' := 36) (L' := [some (.ref 8), some (.int x1)]) (st' := []) rfl (by rw [hw1]; decide +kernel) ?_
    refine Ev.steps 2 (pc' := 40) (L' := [some (.ref 8), some (.int x1)]) (st' := [.ref 53]) rfl ?_
    obtain ⟨r2, hr2, H⟩ := H
    refine Ev.call (y := 134) (args := [.ref 53]) (rest := []) (r := (some (.int r2))) rfl hr2 ?_
    show Ev 6 192 43 [some (.ref 8), some (.int x1)] [.int r2] _ _
    subst H
    exact Ev.ret rfl
  replace H := H.2
  replace H := H hw0 hw1
  refine Ev.sw (p := ((1 : Nat) + Op.lookupswitch.offset [(0, 27), (1, 35)] 43 (x1 : Int32).toInt : Int).toNat) (pc' := 44) (L' := [some (.ref 8), some (.int x1)]) (st' := []) rfl ((by rw [lookupswitch.offset_cons, if_neg (gw_ls_ne (v := 0) (by decide +kernel) hw0), lookupswitch.offset_cons, if_neg (gw_ls_ne (v := 1) (by decide +kernel) hw1), lookupswitch.offset_nil]; decide +kernel)) ?_
  refine Ev.steps 1 (pc' := 47) (L' := [some (.ref 8), some (.int x1)]) (st' := [.int (-1000001)]) rfl ?_
  subst H
  exact Ev.ret rfl

-- 194 GlassWires strain (II)I
set_option maxRecDepth 20000 in
theorem w194_0 {E : gw_N} {M : Mem} {res : Option Value × gw_H} {x1 : Int32} {x2 : Int32} (H : (((F205 M x1) = 0 → res = (some (.int (-102)), hs E M)) ∧ (¬ (F205 M x1) = 0 → (((F205 M x2) = 0 → res = (some (.int (-102)), hs E M)) ∧ (¬ (F205 M x2) = 0 → ((x1 < x2 → res = (some (.int (-102)), hs E M)) ∧ (¬ x1 < x2 → (∃ (r1 : Int32), Rn 136 [.ref 53, .int (x1 - x2)] (hs E M) (some (.int r1)) (hs E M) ∧ res = (some (.int r1), hs E M))))))))) : Ev 6 194 0 [some (.ref 8), some (.int x1), some (.int x2)] [] (hs E M) res := by
  refine Ev.steps 1 (pc' := 1) (L' := [some (.ref 8), some (.int x1), some (.int x2)]) (st' := [.int x1]) rfl ?_
  refine Ev.call (y := 205) (args := [.int x1]) (rest := []) (r := some (.int (F205 M x1))) rfl (s205) ?_
  show Ev 6 194 4 [some (.ref 8), some (.int x1), some (.int x2)] [.int (F205 M x1)] _ _
  refine Ev.steps 1 (pc' := if (F205 M x1) = 0 then 32 else 7) (L' := [some (.ref 8), some (.int x1), some (.int x2)]) (st' := []) rfl ?_
  refine Ev_ite (fun hc => ?_) (fun hc => ?_)
  · replace H := H.1 hc
    refine Ev.steps 1 (pc' := 34) (L' := [some (.ref 8), some (.int x1), some (.int x2)]) (st' := [.int (-102)]) rfl ?_
    subst H
    exact Ev.ret rfl
  · replace H := H.2 hc
    refine Ev.steps 1 (pc' := 8) (L' := [some (.ref 8), some (.int x1), some (.int x2)]) (st' := [.int x2]) rfl ?_
    refine Ev.call (y := 205) (args := [.int x2]) (rest := []) (r := some (.int (F205 M x2))) rfl (s205) ?_
    show Ev 6 194 11 [some (.ref 8), some (.int x1), some (.int x2)] [.int (F205 M x2)] _ _
    refine Ev.steps 1 (pc' := if (F205 M x2) = 0 then 32 else 14) (L' := [some (.ref 8), some (.int x1), some (.int x2)]) (st' := []) rfl ?_
    refine Ev_ite (fun hc => ?_) (fun hc => ?_)
    · replace H := H.1 hc
      refine Ev.steps 1 (pc' := 34) (L' := [some (.ref 8), some (.int x1), some (.int x2)]) (st' := [.int (-102)]) rfl ?_
      subst H
      exact Ev.ret rfl
    · replace H := H.2 hc
      refine Ev.steps 3 (pc' := if x1 < x2 then 32 else 19) (L' := [some (.ref 8), some (.int x1), some (.int x2)]) (st' := []) rfl ?_
      refine Ev_ite (fun hc => ?_) (fun hc => ?_)
      · replace H := H.1 hc
        refine Ev.steps 1 (pc' := 34) (L' := [some (.ref 8), some (.int x1), some (.int x2)]) (st' := [.int (-102)]) rfl ?_
        subst H
        exact Ev.ret rfl
      · replace H := H.2 hc
        refine Ev.steps 5 (pc' := 26) (L' := [some (.ref 8), some (.int x1), some (.int x2)]) (st' := [.int (x1 - x2), .ref 53]) rfl ?_
        obtain ⟨r1, hr1, H⟩ := H
        refine Ev.call (y := 136) (args := [.ref 53, .int (x1 - x2)]) (rest := []) (r := (some (.int r1))) rfl hr1 ?_
        show Ev 6 194 29 [some (.ref 8), some (.int x1), some (.int x2)] [.int r1] _ _
        refine Ev.steps 1 (pc' := 34) (L' := [some (.ref 8), some (.int x1), some (.int x2)]) (st' := [.int r1]) rfl ?_
        subst H
        exact Ev.ret rfl

-- 200 GlassWires cut (I)I
set_option maxRecDepth 20000 in
theorem w200_0 {E : gw_N} {M : Mem} {res : Option Value × gw_H} {x1 : Int32} (H : ((x1 = 0 → (∃ (r1 : Int32), Rn 155 [.ref 14] (hs E M) (some (.int r1)) (hs E M) ∧ ((r1 ≤ 8 → ((x1 = 0 → (∃ (r2 : Int32) (M2 : Mem), Rn 121 [.ref 54, .ref 14] (hs E M) (some (.int r2)) (hs E M2) ∧ res = (some (.int r2), hs E M2))) ∧ (¬ x1 = 0 → (∃ (r3 : Int32) (M3 : Mem), Rn 122 [.ref 54, .ref 14] (hs E M) (some (.int r3)) (hs E M3) ∧ res = (some (.int r3), hs E M3))))) ∧ (¬ r1 ≤ 8 → res = (some (.int (-103)), hs E M))))) ∧ (¬ x1 = 0 → ((x1 = 1 → (∃ (r4 : Int32), Rn 155 [.ref 14] (hs E M) (some (.int r4)) (hs E M) ∧ ((r4 ≤ 8 → ((x1 = 0 → (∃ (r5 : Int32) (M5 : Mem), Rn 121 [.ref 54, .ref 14] (hs E M) (some (.int r5)) (hs E M5) ∧ res = (some (.int r5), hs E M5))) ∧ (¬ x1 = 0 → (∃ (r6 : Int32) (M6 : Mem), Rn 122 [.ref 54, .ref 14] (hs E M) (some (.int r6)) (hs E M6) ∧ res = (some (.int r6), hs E M6))))) ∧ (¬ r4 ≤ 8 → res = (some (.int (-103)), hs E M))))) ∧ (¬ x1 = 1 → res = (some (.int (-102)), hs E M)))))) : Ev 6 200 0 [some (.ref 8), some (.int x1)] [] (hs E M) res := by
  refine Ev.steps 2 (pc' := if x1 = 0 then 12 else 4) (L' := [some (.ref 8), some (.int x1)]) (st' := []) rfl ?_
  refine Ev_ite (fun hc => ?_) (fun hc => ?_)
  · replace H := H.1 hc
    refine Ev.steps 2 (pc' := 16) (L' := [some (.ref 8), some (.int x1)]) (st' := [.ref 14]) rfl ?_
    obtain ⟨r1, hr1, H⟩ := H
    refine Ev.call (y := 155) (args := [.ref 14]) (rest := []) (r := (some (.int r1))) rfl hr1 ?_
    show Ev 6 200 19 [some (.ref 8), some (.int x1)] [.int r1] _ _
    refine Ev.steps 2 (pc' := if r1 ≤ 8 then 27 else 24) (L' := [some (.ref 8), some (.int x1)]) (st' := []) rfl ?_
    refine Ev_ite (fun hc => ?_) (fun hc => ?_)
    · replace H := H.1 hc
      refine Ev.steps 2 (pc' := if x1 = 0 then 31 else 45) (L' := [some (.ref 8), some (.int x1)]) (st' := []) rfl ?_
      refine Ev_ite (fun hc => ?_) (fun hc => ?_)
      · replace H := H.1 hc
        refine Ev.steps 4 (pc' := 39) (L' := [some (.ref 8), some (.int x1)]) (st' := [.ref 14, .ref 54]) rfl ?_
        obtain ⟨r2, M2, hr2, H⟩ := H
        refine Ev.call (y := 121) (args := [.ref 54, .ref 14]) (rest := []) (r := (some (.int r2))) rfl hr2 ?_
        show Ev 6 200 42 [some (.ref 8), some (.int x1)] [.int r2] _ _
        refine Ev.steps 1 (pc' := 56) (L' := [some (.ref 8), some (.int x1)]) (st' := [.int r2]) rfl ?_
        subst H
        exact Ev.ret rfl
      · replace H := H.2 hc
        refine Ev.steps 4 (pc' := 53) (L' := [some (.ref 8), some (.int x1)]) (st' := [.ref 14, .ref 54]) rfl ?_
        obtain ⟨r3, M3, hr3, H⟩ := H
        refine Ev.call (y := 122) (args := [.ref 54, .ref 14]) (rest := []) (r := (some (.int r3))) rfl hr3 ?_
        show Ev 6 200 56 [some (.ref 8), some (.int x1)] [.int r3] _ _
        subst H
        exact Ev.ret rfl
    · replace H := H.2 hc
      refine Ev.steps 1 (pc' := 26) (L' := [some (.ref 8), some (.int x1)]) (st' := [.int (-103)]) rfl ?_
      subst H
      exact Ev.ret rfl
  · replace H := H.2 hc
    refine Ev.steps 3 (pc' := if x1 = 1 then 12 else 9) (L' := [some (.ref 8), some (.int x1)]) (st' := []) rfl ?_
    refine Ev_ite (fun hc => ?_) (fun hc => ?_)
    · replace H := H.1 hc
      refine Ev.steps 2 (pc' := 16) (L' := [some (.ref 8), some (.int x1)]) (st' := [.ref 14]) rfl ?_
      obtain ⟨r4, hr4, H⟩ := H
      refine Ev.call (y := 155) (args := [.ref 14]) (rest := []) (r := (some (.int r4))) rfl hr4 ?_
      show Ev 6 200 19 [some (.ref 8), some (.int x1)] [.int r4] _ _
      refine Ev.steps 2 (pc' := if r4 ≤ 8 then 27 else 24) (L' := [some (.ref 8), some (.int x1)]) (st' := []) rfl ?_
      refine Ev_ite (fun hc => ?_) (fun hc => ?_)
      · replace H := H.1 hc
        refine Ev.steps 2 (pc' := if x1 = 0 then 31 else 45) (L' := [some (.ref 8), some (.int x1)]) (st' := []) rfl ?_
        refine Ev_ite (fun hc => ?_) (fun hc => ?_)
        · replace H := H.1 hc
          refine Ev.steps 4 (pc' := 39) (L' := [some (.ref 8), some (.int x1)]) (st' := [.ref 14, .ref 54]) rfl ?_
          obtain ⟨r5, M5, hr5, H⟩ := H
          refine Ev.call (y := 121) (args := [.ref 54, .ref 14]) (rest := []) (r := (some (.int r5))) rfl hr5 ?_
          show Ev 6 200 42 [some (.ref 8), some (.int x1)] [.int r5] _ _
          refine Ev.steps 1 (pc' := 56) (L' := [some (.ref 8), some (.int x1)]) (st' := [.int r5]) rfl ?_
          subst H
          exact Ev.ret rfl
        · replace H := H.2 hc
          refine Ev.steps 4 (pc' := 53) (L' := [some (.ref 8), some (.int x1)]) (st' := [.ref 14, .ref 54]) rfl ?_
          obtain ⟨r6, M6, hr6, H⟩ := H
          refine Ev.call (y := 122) (args := [.ref 54, .ref 14]) (rest := []) (r := (some (.int r6))) rfl hr6 ?_
          show Ev 6 200 56 [some (.ref 8), some (.int x1)] [.int r6] _ _
          subst H
          exact Ev.ret rfl
      · replace H := H.2 hc
        refine Ev.steps 1 (pc' := 26) (L' := [some (.ref 8), some (.int x1)]) (st' := [.int (-103)]) rfl ?_
        subst H
        exact Ev.ret rfl
    · replace H := H.2 hc
      refine Ev.steps 1 (pc' := 11) (L' := [some (.ref 8), some (.int x1)]) (st' := [.int (-102)]) rfl ?_
      subst H
      exact Ev.ret rfl

-- 203 GlassWires renew ()V
set_option maxRecDepth 20000 in
theorem w203_0 {E : gw_N} {M : Mem} {res : Option Value × gw_H}  (H : (∃ (M1 : Mem), Rn 57 [.ref 22] (hs E M) none (hs E M1) ∧ (∃ (M2 : Mem), Rn 1 [.ref 32] (hs E M1) none (hs E M2) ∧ res = (none, hs E M2)))) : Ev 6 203 0 [some (.ref 8)] [] (hs E M) res := by
  refine Ev.steps 2 (pc' := 4) (L' := [some (.ref 8)]) (st' := [.ref 22]) rfl ?_
  obtain ⟨M1, hr1, H⟩ := H
  refine Ev.call (y := 57) (args := [.ref 22]) (rest := []) (r := none) rfl hr1 ?_
  show Ev 6 203 7 [some (.ref 8)] [] _ _
  refine Ev.steps 2 (pc' := 11) (L' := [some (.ref 8)]) (st' := [.ref 32]) rfl ?_
  obtain ⟨M2, hr2, H⟩ := H
  refine Ev.call (y := 1) (args := [.ref 32]) (rest := []) (r := none) rfl hr2 ?_
  show Ev 6 203 14 [some (.ref 8)] [] _ _
  subst H
  exact Ev.ret rfl

