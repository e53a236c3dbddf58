/-! by program (wp.py): formulas that are enough -/
-- 301 GlassWiresModel rod (II)I
set_option maxRecDepth 20000 in
theorem w301_0 {E : gw_N} {M : Mem} {res : Option Value × gw_H} {x1 : Int32} {x2 : Int32} (H : (((F209 M (Int32.toInt64 x1) 1 99) = 0 → res = (some (.int (-102)), hs E M)) ∧ (¬ (F209 M (Int32.toInt64 x1) 1 99) = 0 → (((F209 M (Int32.toInt64 x2) 0 20) = 0 → res = (some (.int (-102)), hs E M)) ∧ (¬ (F209 M (Int32.toInt64 x2) 0 20) = 0 → ((((M 59) 36) = 8 → res = (some (.int (-104)), hs E M)) ∧ (¬ ((M 59) 36) = 8 → (inb ((M 59) 36) 8 ∧ (inb ((M 59) 36) 8 ∧ res = (some (.int (((upd (M 59) 36 (((M 59) 36) + 1)) 36) - 1)), hs E (up (up (up M 84 (upd (M 84) (((M 59) 36) : Int32).toNatClampNeg x1)) 85 (upd (M 85) (((M 59) 36) : Int32).toNatClampNeg x2)) 59 (upd (M 59) 36 (((M 59) 36) + 1))))))))))))) : Ev 2 301 0 [some (.ref 59), some (.int x1), some (.int x2)] [] (hs E M) res := by
  refine Ev.steps 4 (pc' := 6) (L' := [some (.ref 59), some (.int x1), some (.int x2)]) (st' := [.long 99, .long 1, .long (Int32.toInt64 x1)]) rfl ?_
  refine Ev.call (y := 209) (args := [.long (Int32.toInt64 x1), .long 1, .long 99]) (rest := []) (r := some (.int (F209 M (Int32.toInt64 x1) 1 99))) rfl (s209) ?_
  show Ev 2 301 9 [some (.ref 59), some (.int x1), some (.int x2)] [.int (F209 M (Int32.toInt64 x1) 1 99)] _ _
  refine Ev.steps 1 (pc' := if (F209 M (Int32.toInt64 x1) 1 99) = 0 then 24 else 12) (L' := [some (.ref 59), some (.int x1), some (.int x2)]) (st' := []) rfl ?_
  refine Ev_ite (fun hc => ?_) (fun hc => ?_)
  · replace H := H.1 hc
    refine Ev.steps 1 (pc' := 26) (L' := [some (.ref 59), some (.int x1), some (.int x2)]) (st' := [.int (-102)]) rfl ?_
    subst H
    exact Ev.ret rfl
  · replace H := H.2 hc
    refine Ev.steps 4 (pc' := 18) (L' := [some (.ref 59), some (.int x1), some (.int x2)]) (st' := [.long 20, .long 0, .long (Int32.toInt64 x2)]) rfl ?_
    refine Ev.call (y := 209) (args := [.long (Int32.toInt64 x2), .long 0, .long 20]) (rest := []) (r := some (.int (F209 M (Int32.toInt64 x2) 0 20))) rfl (s209) ?_
    show Ev 2 301 21 [some (.ref 59), some (.int x1), some (.int x2)] [.int (F209 M (Int32.toInt64 x2) 0 20)] _ _
    refine Ev.steps 1 (pc' := if (F209 M (Int32.toInt64 x2) 0 20) = 0 then 24 else 27) (L' := [some (.ref 59), some (.int x1), some (.int x2)]) (st' := []) rfl ?_
    refine Ev_ite (fun hc => ?_) (fun hc => ?_)
    · replace H := H.1 hc
      refine Ev.steps 1 (pc' := 26) (L' := [some (.ref 59), some (.int x1), some (.int x2)]) (st' := [.int (-102)]) rfl ?_
      subst H
      exact Ev.ret rfl
    · replace H := H.2 hc
      refine Ev.steps 4 (pc' := if ((M 59) 36) = 8 then 36 else 39) (L' := [some (.ref 59), some (.int x1), some (.int x2)]) (st' := []) rfl ?_
      refine Ev_ite (fun hc => ?_) (fun hc => ?_)
      · replace H := H.1 hc
        refine Ev.steps 1 (pc' := 38) (L' := [some (.ref 59), some (.int x1), some (.int x2)]) (st' := [.int (-104)]) rfl ?_
        subst H
        exact Ev.ret rfl
      · replace H := H.2 hc
        refine Ev.steps 5 (pc' := 48) (L' := [some (.ref 59), some (.int x1), some (.int x2)]) (st' := [.int x1, .int ((M 59) 36), .ref 84]) rfl ?_
        refine Ev.wr (a := 84) (g := (upd (M 84) (((M 59) 36) : Int32).toNatClampNeg x1)) (i := ((M 59) 36)) (n := 8) (pc' := 49) (L' := [some (.ref 59), some (.int x1), some (.int x2)]) (st' := []) (by decide) H.1 rfl ?_
        replace H := H.2
        refine Ev.steps 5 (pc' := 58) (L' := [some (.ref 59), some (.int x1), some (.int x2)]) (st' := [.int x2, .int ((M 59) 36), .ref 85]) rfl ?_
        refine Ev.wr (a := 85) (g := (upd (M 85) (((M 59) 36) : Int32).toNatClampNeg x2)) (i := ((M 59) 36)) (n := 8) (pc' := 59) (L' := [some (.ref 59), some (.int x1), some (.int x2)]) (st' := []) (by decide) H.1 rfl ?_
        replace H := H.2
        refine Ev.steps 5 (pc' := 66) (L' := [some (.ref 59), some (.int x1), some (.int x2)]) (st' := [.int (((M 59) 36) + 1), .ref 59]) rfl ?_
        refine Ev.mem (a := 59) (g := (upd (M 59) 36 (((M 59) 36) + 1))) (pc' := 69) (L' := [some (.ref 59), some (.int x1), some (.int x2)]) (st' := []) (by decide) rfl ?_
        refine Ev.steps 4 (pc' := 75) (L' := [some (.ref 59), some (.int x1), some (.int x2)]) (st' := [.int (((upd (M 59) 36 (((M 59) 36) + 1)) 36) - 1)]) rfl ?_
        subst H
        exact Ev.ret rfl

-- 306 GlassWiresModel cut (I)I
set_option maxRecDepth 20000 in
theorem w306_0 {E : gw_N} {M : Mem} {res : Option Value × gw_H} {x1 : Int32} (H : (((F209 M (Int32.toInt64 x1) 0 1) = 0 → res = (some (.int (-102)), hs E M)) ∧ (¬ (F209 M (Int32.toInt64 x1) 0 1) = 0 → (∃ (r1 : Int32), Rn 305 [.ref 59] (hs E M) (some (.int r1)) (hs E M) ∧ ((r1 ≤ 8 → Ev 2 306 34 [some (.ref 59), some (.int x1), some (.int 0), some (.int 0), none, none, none, none] [] (hs E (up M 59 (upd (M 59) 40 0))) res) ∧ (¬ r1 ≤ 8 → res = (some (.int (-103)), hs E M))))))) : Ev 2 306 0 [some (.ref 59), some (.int x1), none, none, none, none, none, none] [] (hs E M) res := by
  refine Ev.steps 4 (pc' := 4) (L' := [some (.ref 59), some (.int x1), none, none, none, none, none, none]) (st' := [.long 1, .long 0, .long (Int32.toInt64 x1)]) rfl ?_
  refine Ev.call (y := 209) (args := [.long (Int32.toInt64 x1), .long 0, .long 1]) (rest := []) (r := some (.int (F209 M (Int32.toInt64 x1) 0 1))) rfl (s209) ?_
  show Ev 2 306 7 [some (.ref 59), some (.int x1), none, none, none, none, none, none] [.int (F209 M (Int32.toInt64 x1) 0 1)] _ _
  refine Ev.steps 1 (pc' := if (F209 M (Int32.toInt64 x1) 0 1) = 0 then 10 else 13) (L' := [some (.ref 59), some (.int x1), none, none, none, none, none, none]) (st' := []) rfl ?_
  refine Ev_ite (fun hc => ?_) (fun hc => ?_)
  · replace H := H.1 hc
    refine Ev.steps 1 (pc' := 12) (L' := [some (.ref 59), some (.int x1), none, none, none, none, none, none]) (st' := [.int (-102)]) rfl ?_
    subst H
    exact Ev.ret rfl
  · replace H := H.2 hc
    refine Ev.steps 1 (pc' := 14) (L' := [some (.ref 59), some (.int x1), none, none, none, none, none, none]) (st' := [.ref 59]) rfl ?_
    obtain ⟨r1, hr1, H⟩ := H
    refine Ev.call (y := 305) (args := [.ref 59]) (rest := []) (r := (some (.int r1))) rfl hr1 ?_
    show Ev 2 306 17 [some (.ref 59), some (.int x1), none, none, none, none, none, none] [.int r1] _ _
    refine Ev.steps 2 (pc' := if r1 ≤ 8 then 25 else 22) (L' := [some (.ref 59), some (.int x1), none, none, none, none, none, none]) (st' := []) rfl ?_
    refine Ev_ite (fun hc => ?_) (fun hc => ?_)
    · replace H := H.1 hc
      refine Ev.steps 2 (pc' := 27) (L' := [some (.ref 59), some (.int x1), none, none, none, none, none, none]) (st' := [.int 0, .ref 59]) rfl ?_
      refine Ev.mem (a := 59) (g := (upd (M 59) 40 0)) (pc' := 30) (L' := [some (.ref 59), some (.int x1), none, none, none, none, none, none]) (st' := []) (by decide) rfl ?_
      refine Ev.steps 4 (pc' := 34) (L' := [some (.ref 59), some (.int x1), some (.int 0), some (.int 0), none, none, none, none]) (st' := []) rfl ?_
      exact Ev.weak [some (.ref 59), some (.int x1), some (.int 0), some (.int 0), none, none, none, none] (gw_leb_le ⟨rfl, rfl, rfl, rfl, trivial⟩) H
    · replace H := H.2 hc
      refine Ev.steps 1 (pc' := 24) (L' := [some (.ref 59), some (.int x1), none, none, none, none, none, none]) (st' := [.int (-103)]) rfl ?_
      subst H
      exact Ev.ret rfl

set_option maxRecDepth 20000 in
theorem w306_34 {E : gw_N} {M : Mem} {res : Option Value × gw_H} {x1 : Int32} {x2 : Int32} {x3 : Int32} (H : ((((M 59) 4) ≤ x3 → ((((M 59) 40) = 0 → res = (some (.int 0), hs E M)) ∧ (¬ ((M 59) 40) = 0 → Ev 2 306 118 [some (.ref 59), some (.int x1), some (.int x2), some (.int (-1)), some (.int 0), some (.int 1), none, none] [] (hs E M) res))) ∧ (¬ ((M 59) 4) ≤ x3 → (inb x3 30 ∧ ((((M 64) (x3 : Int32).toNatClampNeg) = 0 → Ev 2 306 34 [some (.ref 59), some (.int x1), some (.int x2), some (.int (x3 + 1)), none, none, none, none] [] (hs E M) res) ∧ (¬ ((M 64) (x3 : Int32).toNatClampNeg) = 0 → (inb x3 30 ∧ (inb ((M 59) 40) 8 ∧ (inb ((M 59) 40) 8 ∧ (inb x3 30 ∧ Ev 2 306 34 [some (.ref 59), some (.int x1), some (.int (x2 + ((M 63) (x3 : Int32).toNatClampNeg))), some (.int (x3 + 1)), none, none, none, none] [] (hs E (up (up (up M 86 (upd (M 86) (((M 59) 40) : Int32).toNatClampNeg ((M 63) (x3 : Int32).toNatClampNeg))) 87 (upd (M 87) (((M 59) 40) : Int32).toNatClampNeg 0)) 59 (upd (M 59) 40 (((M 59) 40) + 1)))) res)))))))))) : Ev 2 306 34 [some (.ref 59), some (.int x1), some (.int x2), some (.int x3), none, none, none, none] [] (hs E M) res := by
  refine Ev.steps 4 (pc' := if ((M 59) 4) ≤ x3 then 101 else 42) (L' := [some (.ref 59), some (.int x1), some (.int x2), some (.int x3), none, none, none, none]) (st' := []) rfl ?_
  refine Ev_ite (fun hc => ?_) (fun hc => ?_)
  · replace H := H.1 hc
    refine Ev.steps 3 (pc' := if ((M 59) 40) = 0 then 108 else 110) (L' := [some (.ref 59), some (.int x1), some (.int x2), some (.int x3), none, none, none, none]) (st' := []) rfl ?_
    refine Ev_ite (fun hc => ?_) (fun hc => ?_)
    · replace H := H.1 hc
      refine Ev.steps 1 (pc' := 109) (L' := [some (.ref 59), some (.int x1), some (.int x2), some (.int x3), none, none, none, none]) (st' := [.int 0]) rfl ?_
      subst H
      exact Ev.ret rfl
    · replace H := H.2 hc
      refine Ev.steps 6 (pc' := 118) (L' := [some (.ref 59), some (.int x1), some (.int x2), some (.int (-1)), some (.int 0), some (.int 1), none, none]) (st' := []) rfl ?_
      exact Ev.weak [some (.ref 59), some (.int x1), some (.int x2), some (.int (-1)), some (.int 0), some (.int 1), none, none] (gw_leb_le ⟨rfl, rfl, rfl, rfl, rfl, rfl, trivial⟩) H
  · replace H := H.2 hc
    refine Ev.steps 3 (pc' := 47) (L' := [some (.ref 59), some (.int x1), some (.int x2), some (.int x3), none, none, none, none]) (st' := [.int x3, .ref 64]) rfl ?_
    refine Ev.rd (i := x3) (n := 30) (pc' := 48) (L' := [some (.ref 59), some (.int x1), some (.int x2), some (.int x3), none, none, none, none]) (st' := [.int ((M 64) (x3 : Int32).toNatClampNeg)]) H.1 rfl ?_
    replace H := H.2
    refine Ev.steps 1 (pc' := if ((M 64) (x3 : Int32).toNatClampNeg) = 0 then 95 else 51) (L' := [some (.ref 59), some (.int x1), some (.int x2), some (.int x3), none, none, none, none]) (st' := []) rfl ?_
    refine Ev_ite (fun hc => ?_) (fun hc => ?_)
    · replace H := H.1 hc
      refine Ev.steps 2 (pc' := 34) (L' := [some (.ref 59), some (.int x1), some (.int x2), some (.int (x3 + 1)), none, none, none, none]) (st' := []) rfl ?_
      exact Ev.weak [some (.ref 59), some (.int x1), some (.int x2), some (.int (x3 + 1)), none, none, none, none] (gw_leb_le ⟨rfl, rfl, rfl, rfl, trivial⟩) H
    · replace H := H.2 hc
      refine Ev.steps 7 (pc' := 64) (L' := [some (.ref 59), some (.int x1), some (.int x2), some (.int x3), none, none, none, none]) (st' := [.int x3, .ref 63, .int ((M 59) 40), .ref 86]) rfl ?_
      refine Ev.rd (i := x3) (n := 30) (pc' := 65) (L' := [some (.ref 59), some (.int x1), some (.int x2), some (.int x3), none, none, none, none]) (st' := [.int ((M 63) (x3 : Int32).toNatClampNeg), .int ((M 59) 40), .ref 86]) H.1 rfl ?_
      replace H := H.2
      refine Ev.wr (a := 86) (g := (upd (M 86) (((M 59) 40) : Int32).toNatClampNeg ((M 63) (x3 : Int32).toNatClampNeg))) (i := ((M 59) 40)) (n := 8) (pc' := 66) (L' := [some (.ref 59), some (.int x1), some (.int x2), some (.int x3), none, none, none, none]) (st' := []) (by decide) H.1 rfl ?_
      replace H := H.2
      refine Ev.steps 5 (pc' := 75) (L' := [some (.ref 59), some (.int x1), some (.int x2), some (.int x3), none, none, none, none]) (st' := [.int 0, .int ((M 59) 40), .ref 87]) rfl ?_
      refine Ev.wr (a := 87) (g := (upd (M 87) (((M 59) 40) : Int32).toNatClampNeg 0)) (i := ((M 59) 40)) (n := 8) (pc' := 76) (L' := [some (.ref 59), some (.int x1), some (.int x2), some (.int x3), none, none, none, none]) (st' := []) (by decide) H.1 rfl ?_
      replace H := H.2
      refine Ev.steps 5 (pc' := 83) (L' := [some (.ref 59), some (.int x1), some (.int x2), some (.int x3), none, none, none, none]) (st' := [.int (((M 59) 40) + 1), .ref 59]) rfl ?_
      refine Ev.mem (a := 59) (g := (upd (M 59) 40 (((M 59) 40) + 1))) (pc' := 86) (L' := [some (.ref 59), some (.int x1), some (.int x2), some (.int x3), none, none, none, none]) (st' := []) (by decide) rfl ?_
      refine Ev.steps 4 (pc' := 92) (L' := [some (.ref 59), some (.int x1), some (.int x2), some (.int x3), none, none, none, none]) (st' := [.int x3, .ref 63, .int x2]) rfl ?_
      refine Ev.rd (i := x3) (n := 30) (pc' := 93) (L' := [some (.ref 59), some (.int x1), some (.int x2), some (.int x3), none, none, none, none]) (st' := [.int ((M 63) (x3 : Int32).toNatClampNeg), .int x2]) H.1 rfl ?_
      replace H := H.2
      refine Ev.steps 4 (pc' := 34) (L' := [some (.ref 59), some (.int x1), some (.int (x2 + ((M 63) (x3 : Int32).toNatClampNeg))), some (.int (x3 + 1)), none, none, none, none]) (st' := []) rfl ?_
      exact Ev.weak [some (.ref 59), some (.int x1), some (.int (x2 + ((M 63) (x3 : Int32).toNatClampNeg))), some (.int (x3 + 1)), none, none, none, none] (gw_leb_le ⟨rfl, rfl, rfl, rfl, trivial⟩) H

set_option maxRecDepth 20000 in
theorem w306_118 {E : gw_N} {M : Mem} {res : Option Value × gw_H} {x1 : Int32} {x2 : Int32} {x3 : Int32} {x4 : Int32} {x5 : Int32} (H : ((x5 = 0 → ((x3 = (-1) → res = (some (.int (-1)), hs E M)) ∧ (¬ x3 = (-1) → ((x1 = 0 → res = (some (.int x3), hs E M)) ∧ (¬ x1 = 0 → res = (some (.int (x4 - x2)), hs E M)))))) ∧ (¬ x5 = 0 → (∃ (r1 : Int32) (M1 : Mem), Rn 302 [.ref 59] (hs E M) (some (.int r1)) (hs E M1) ∧ (∃ (r2 : Int32) (M2 : Mem), Rn 303 [.ref 59, .int r1] (hs E M1) (some (.int r2)) (hs E M2) ∧ ((r2 = (-1) → (∃ (r3 : Int32) (M3 : Mem), Rn 304 [.ref 59] (hs E M2) (some (.int r3)) (hs E M3) ∧ Ev 2 306 118 [some (.ref 59), some (.int x1), some (.int x2), some (.int x3), some (.int x4), some (.int r3), none, none] [] (hs E M3) res)) ∧ (¬ r2 = (-1) → ((x3 = (-1) → (∃ (r4 : Int32) (M4 : Mem), Rn 304 [.ref 59] (hs E M2) (some (.int r4)) (hs E M4) ∧ Ev 2 306 118 [some (.ref 59), some (.int x1), some (.int x2), some (.int r1), some (.int r2), some (.int r4), none, none] [] (hs E M4) res)) ∧ (¬ x3 = (-1) → ((r1 < x3 → (∃ (r5 : Int32) (M5 : Mem), Rn 304 [.ref 59] (hs E M2) (some (.int r5)) (hs E M5) ∧ Ev 2 306 118 [some (.ref 59), some (.int x1), some (.int x2), some (.int r1), some (.int r2), some (.int r5), none, none] [] (hs E M5) res)) ∧ (¬ r1 < x3 → ((r1 = x3 → ((x4 ≤ r2 → (∃ (r6 : Int32) (M6 : Mem), Rn 304 [.ref 59] (hs E M2) (some (.int r6)) (hs E M6) ∧ Ev 2 306 118 [some (.ref 59), some (.int x1), some (.int x2), some (.int x3), some (.int x4), some (.int r6), none, none] [] (hs E M6) res)) ∧ (¬ x4 ≤ r2 → (∃ (r7 : Int32) (M7 : Mem), Rn 304 [.ref 59] (hs E M2) (some (.int r7)) (hs E M7) ∧ Ev 2 306 118 [some (.ref 59), some (.int x1), some (.int x2), some (.int r1), some (.int r2), some (.int r7), none, none] [] (hs E M7) res)))) ∧ (¬ r1 = x3 → (∃ (r8 : Int32) (M8 : Mem), Rn 304 [.ref 59] (hs E M2) (some (.int r8)) (hs E M8) ∧ Ev 2 306 118 [some (.ref 59), some (.int x1), some (.int x2), some (.int x3), some (.int x4), some (.int r8), none, none] [] (hs E M8) res)))))))))))))) : Ev 2 306 118 [some (.ref 59), some (.int x1), some (.int x2), some (.int x3), some (.int x4), some (.int x5), none, none] [] (hs E M) res := by
  refine Ev.steps 2 (pc' := if x5 = 0 then 183 else 123) (L' := [some (.ref 59), some (.int x1), some (.int x2), some (.int x3), some (.int x4), some (.int x5), none, none]) (st' := []) rfl ?_
  refine Ev_ite (fun hc => ?_) (fun hc => ?_)
  · replace H := H.1 hc
    refine Ev.steps 3 (pc' := if x3 = (-1) then 188 else 192) (L' := [some (.ref 59), some (.int x1), some (.int x2), some (.int x3), some (.int x4), some (.int x5), none, none]) (st' := []) rfl ?_
    refine Ev_ite (fun hc => ?_) (fun hc => ?_)
    · replace H := H.1 hc
      refine Ev.steps 2 (pc' := 204) (L' := [some (.ref 59), some (.int x1), some (.int x2), some (.int x3), some (.int x4), some (.int x5), none, none]) (st' := [.int (-1)]) rfl ?_
      subst H
      exact Ev.ret rfl
    · replace H := H.2 hc
      refine Ev.steps 2 (pc' := if x1 = 0 then 196 else 200) (L' := [some (.ref 59), some (.int x1), some (.int x2), some (.int x3), some (.int x4), some (.int x5), none, none]) (st' := []) rfl ?_
      refine Ev_ite (fun hc => ?_) (fun hc => ?_)
      · replace H := H.1 hc
        refine Ev.steps 2 (pc' := 204) (L' := [some (.ref 59), some (.int x1), some (.int x2), some (.int x3), some (.int x4), some (.int x5), none, none]) (st' := [.int x3]) rfl ?_
        subst H
        exact Ev.ret rfl
      · replace H := H.2 hc
        refine Ev.steps 3 (pc' := 204) (L' := [some (.ref 59), some (.int x1), some (.int x2), some (.int x3), some (.int x4), some (.int x5), none, none]) (st' := [.int (x4 - x2)]) rfl ?_
        subst H
        exact Ev.ret rfl
  · replace H := H.2 hc
    refine Ev.steps 1 (pc' := 124) (L' := [some (.ref 59), some (.int x1), some (.int x2), some (.int x3), some (.int x4), some (.int x5), none, none]) (st' := [.ref 59]) rfl ?_
    obtain ⟨r1, M1, hr1, H⟩ := H
    refine Ev.call (y := 302) (args := [.ref 59]) (rest := []) (r := (some (.int r1))) rfl hr1 ?_
    show Ev 2 306 127 [some (.ref 59), some (.int x1), some (.int x2), some (.int x3), some (.int x4), some (.int x5), none, none] [.int r1] _ _
    refine Ev.steps 3 (pc' := 132) (L' := [some (.ref 59), some (.int x1), some (.int x2), some (.int x3), some (.int x4), some (.int x5), some (.int r1), none]) (st' := [.int r1, .ref 59]) rfl ?_
    obtain ⟨r2, M2, hr2, H⟩ := H
    refine Ev.call (y := 303) (args := [.ref 59, .int r1]) (rest := []) (r := (some (.int r2))) rfl hr2 ?_
    show Ev 2 306 135 [some (.ref 59), some (.int x1), some (.int x2), some (.int x3), some (.int x4), some (.int x5), some (.int r1), none] [.int r2] _ _
    refine Ev.steps 4 (pc' := if r2 = (-1) then 174 else 143) (L' := [some (.ref 59), some (.int x1), some (.int x2), some (.int x3), some (.int x4), some (.int x5), some (.int r1), some (.int r2)]) (st' := []) rfl ?_
    refine Ev_ite (fun hc => ?_) (fun hc => ?_)
    · replace H := H.1 hc
      refine Ev.steps 1 (pc' := 175) (L' := [some (.ref 59), some (.int x1), some (.int x2), some (.int x3), some (.int x4), some (.int x5), some (.int r1), some (.int r2)]) (st' := [.ref 59]) rfl ?_
      obtain ⟨r3, M3, hr3, H⟩ := H
      refine Ev.call (y := 304) (args := [.ref 59]) (rest := []) (r := (some (.int r3))) rfl hr3 ?_
      show Ev 2 306 178 [some (.ref 59), some (.int x1), some (.int x2), some (.int x3), some (.int x4), some (.int x5), some (.int r1), some (.int r2)] [.int r3] _ _
      refine Ev.steps 2 (pc' := 118) (L' := [some (.ref 59), some (.int x1), some (.int x2), some (.int x3), some (.int x4), some (.int r3), some (.int r1), some (.int r2)]) (st' := []) rfl ?_
      exact Ev.weak [some (.ref 59), some (.int x1), some (.int x2), some (.int x3), some (.int x4), some (.int r3), none, none] (gw_leb_le ⟨rfl, rfl, rfl, rfl, rfl, rfl, trivial⟩) H
    · replace H := H.2 hc
      refine Ev.steps 3 (pc' := if x3 = (-1) then 167 else 148) (L' := [some (.ref 59), some (.int x1), some (.int x2), some (.int x3), some (.int x4), some (.int x5), some (.int r1), some (.int r2)]) (st' := []) rfl ?_
      refine Ev_ite (fun hc => ?_) (fun hc => ?_)
      · replace H := H.1 hc
        refine Ev.steps 5 (pc' := 175) (L' := [some (.ref 59), some (.int x1), some (.int x2), some (.int r1), some (.int r2), some (.int x5), some (.int r1), some (.int r2)]) (st' := [.ref 59]) rfl ?_
        obtain ⟨r4, M4, hr4, H⟩ := H
        refine Ev.call (y := 304) (args := [.ref 59]) (rest := []) (r := (some (.int r4))) rfl hr4 ?_
        show Ev 2 306 178 [some (.ref 59), some (.int x1), some (.int x2), some (.int r1), some (.int r2), some (.int x5), some (.int r1), some (.int r2)] [.int r4] _ _
        refine Ev.steps 2 (pc' := 118) (L' := [some (.ref 59), some (.int x1), some (.int x2), some (.int r1), some (.int r2), some (.int r4), some (.int r1), some (.int r2)]) (st' := []) rfl ?_
        exact Ev.weak [some (.ref 59), some (.int x1), some (.int x2), some (.int r1), some (.int r2), some (.int r4), none, none] (gw_leb_le ⟨rfl, rfl, rfl, rfl, rfl, rfl, trivial⟩) H
      · replace H := H.2 hc
        refine Ev.steps 3 (pc' := if r1 < x3 then 167 else 154) (L' := [some (.ref 59), some (.int x1), some (.int x2), some (.int x3), some (.int x4), some (.int x5), some (.int r1), some (.int r2)]) (st' := []) rfl ?_
        refine Ev_ite (fun hc => ?_) (fun hc => ?_)
        · replace H := H.1 hc
          refine Ev.steps 5 (pc' := 175) (L' := [some (.ref 59), some (.int x1), some (.int x2), some (.int r1), some (.int r2), some (.int x5), some (.int r1), some (.int r2)]) (st' := [.ref 59]) rfl ?_
          obtain ⟨r5, M5, hr5, H⟩ := H
          refine Ev.call (y := 304) (args := [.ref 59]) (rest := []) (r := (some (.int r5))) rfl hr5 ?_
          show Ev 2 306 178 [some (.ref 59), some (.int x1), some (.int x2), some (.int r1), some (.int r2), some (.int x5), some (.int r1), some (.int r2)] [.int r5] _ _
          refine Ev.steps 2 (pc' := 118) (L' := [some (.ref 59), some (.int x1), some (.int x2), some (.int r1), some (.int r2), some (.int r5), some (.int r1), some (.int r2)]) (st' := []) rfl ?_
          exact Ev.weak [some (.ref 59), some (.int x1), some (.int x2), some (.int r1), some (.int r2), some (.int r5), none, none] (gw_leb_le ⟨rfl, rfl, rfl, rfl, rfl, rfl, trivial⟩) H
        · replace H := H.2 hc
          refine Ev.steps 3 (pc' := if r1 = x3 then 160 else 174) (L' := [some (.ref 59), some (.int x1), some (.int x2), some (.int x3), some (.int x4), some (.int x5), some (.int r1), some (.int r2)]) (st' := []) rfl ?_
          refine Ev_ite (fun hc => ?_) (fun hc => ?_)
          · replace H := H.1 hc
            refine Ev.steps 3 (pc' := if x4 ≤ r2 then 174 else 167) (L' := [some (.ref 59), some (.int x1), some (.int x2), some (.int x3), some (.int x4), some (.int x5), some (.int r1), some (.int r2)]) (st' := []) rfl ?_
            refine Ev_ite (fun hc => ?_) (fun hc => ?_)
            · replace H := H.1 hc
              refine Ev.steps 1 (pc' := 175) (L' := [some (.ref 59), some (.int x1), some (.int x2), some (.int x3), some (.int x4), some (.int x5), some (.int r1), some (.int r2)]) (st' := [.ref 59]) rfl ?_
              obtain ⟨r6, M6, hr6, H⟩ := H
              refine Ev.call (y := 304) (args := [.ref 59]) (rest := []) (r := (some (.int r6))) rfl hr6 ?_
              show Ev 2 306 178 [some (.ref 59), some (.int x1), some (.int x2), some (.int x3), some (.int x4), some (.int x5), some (.int r1), some (.int r2)] [.int r6] _ _
              refine Ev.steps 2 (pc' := 118) (L' := [some (.ref 59), some (.int x1), some (.int x2), some (.int x3), some (.int x4), some (.int r6), some (.int r1), some (.int r2)]) (st' := []) rfl ?_
              exact Ev.weak [some (.ref 59), some (.int x1), some (.int x2), some (.int x3), some (.int x4), some (.int r6), none, none] (gw_leb_le ⟨rfl, rfl, rfl, rfl, rfl, rfl, trivial⟩) H
            · replace H := H.2 hc
              refine Ev.steps 5 (pc' := 175) (L' := [some (.ref 59), some (.int x1), some (.int x2), some (.int r1), some (.int r2), some (.int x5), some (.int r1), some (.int r2)]) (st' := [.ref 59]) rfl ?_
              obtain ⟨r7, M7, hr7, H⟩ := H
              refine Ev.call (y := 304) (args := [.ref 59]) (rest := []) (r := (some (.int r7))) rfl hr7 ?_
              show Ev 2 306 178 [some (.ref 59), some (.int x1), some (.int x2), some (.int r1), some (.int r2), some (.int x5), some (.int r1), some (.int r2)] [.int r7] _ _
              refine Ev.steps 2 (pc' := 118) (L' := [some (.ref 59), some (.int x1), some (.int x2), some (.int r1), some (.int r2), some (.int r7), some (.int r1), some (.int r2)]) (st' := []) rfl ?_
              exact Ev.weak [some (.ref 59), some (.int x1), some (.int x2), some (.int r1), some (.int r2), some (.int r7), none, none] (gw_leb_le ⟨rfl, rfl, rfl, rfl, rfl, rfl, trivial⟩) H
          · replace H := H.2 hc
            refine Ev.steps 1 (pc' := 175) (L' := [some (.ref 59), some (.int x1), some (.int x2), some (.int x3), some (.int x4), some (.int x5), some (.int r1), some (.int r2)]) (st' := [.ref 59]) rfl ?_
            obtain ⟨r8, M8, hr8, H⟩ := H
            refine Ev.call (y := 304) (args := [.ref 59]) (rest := []) (r := (some (.int r8))) rfl hr8 ?_
            show Ev 2 306 178 [some (.ref 59), some (.int x1), some (.int x2), some (.int x3), some (.int x4), some (.int x5), some (.int r1), some (.int r2)] [.int r8] _ _
            refine Ev.steps 2 (pc' := 118) (L' := [some (.ref 59), some (.int x1), some (.int x2), some (.int x3), some (.int x4), some (.int r8), some (.int r1), some (.int r2)]) (st' := []) rfl ?_
            exact Ev.weak [some (.ref 59), some (.int x1), some (.int x2), some (.int x3), some (.int x4), some (.int r8), none, none] (gw_leb_le ⟨rfl, rfl, rfl, rfl, rfl, rfl, trivial⟩) H

-- 307 GlassWiresModel count (I)I
set_option maxRecDepth 20000 in
theorem w307_0 {E : gw_N} {M : Mem} {res : Option Value × gw_H} {x1 : Int32} (H : ((x1 = 0 → res = (some (.int (F243 M)), hs E M)) ∧ (x1 = 1 → res = (some (.int ((M 59) 4)), hs E M)) ∧ (x1 = 2 → (∃ (r1 : Int32), Rn 305 [.ref 59] (hs E M) (some (.int r1)) (hs E M) ∧ res = (some (.int r1), hs E M))) ∧ (x1 = 3 → res = (some (.int ((M 59) 3)), hs E M)) ∧ (x1 = 4 → res = (some (.int ((M 59) 36)), hs E M)) ∧ (x1 = 5 → Ev 2 307 67 [some (.ref 59), none, some (.int 0), some (.int 0)] [] (hs E M) res) ∧ (¬ x1 = 0 → ¬ x1 = 1 → ¬ x1 = 2 → ¬ x1 = 3 → ¬ x1 = 4 → ¬ x1 = 5 → res = (some (.int (-102)), hs E M)))) : Ev 2 307 0 [some (.ref 59), some (.int x1), none, none] [] (hs E M) res := by
  refine Ev.steps 3 (pc' := 3) (L' := [some (.ref 59), some (.int x1), some (.int 0), none]) (st' := [.int x1]) rfl ?_
  by_cases hw0 : x1 = 0
  · replace H := H.1 hw0
    refine Ev.sw (p := gw_tsw 3 89 0 5 #[37, 42, 47, 52, 57, 62] x1) (pc' := 40) (L' := [some (.ref 59), some (.int x1), some (.int 0), none]) (st' := []) rfl (by rw [hw0]; decide +kernel) ?_
    refine Ev.steps 1 (pc' := 41) (L' := [some (.ref 59), some (.int x1), some (.int 0), none]) (st' := [.ref 59]) rfl ?_
    refine Ev.call (y := 243) (args := [.ref 59]) (rest := []) (r := some (.int (F243 M))) rfl (s243) ?_
    show Ev 2 307 44 [some (.ref 59), some (.int x1), some (.int 0), none] [.int (F243 M)] _ _
    subst H
    exact Ev.ret rfl
  replace H := H.2
  by_cases hw1 : x1 = 1
  · replace H := H.1 hw1
    refine Ev.sw (p := gw_tsw 3 89 0 5 #[37, 42, 47, 52, 57, 62] x1) (pc' := 45) (L' := [some (.ref 59), some (.int x1), some (.int 0), none]) (st' := []) rfl (by rw [hw1]; decide +kernel) ?_
    refine Ev.steps 2 (pc' := 49) (L' := [some (.ref 59), some (.int x1), some (.int 0), none]) (st' := [.int ((M 59) 4)]) rfl ?_
    subst H
    exact Ev.ret rfl
  replace H := H.2
  by_cases hw2 : x1 = 2
  · replace H := H.1 hw2
    refine Ev.sw (p := gw_tsw 3 89 0 5 #[37, 42, 47, 52, 57, 62] x1) (pc' := 50) (L' := [some (.ref 59), some (.int x1), some (.int 0), none]) (st' := []) rfl (by rw [hw2]; decide +kernel) ?_
    refine Ev.steps 1 (pc' := 51) (L' := [some (.ref 59), some (.int x1), some (.int 0), none]) (st' := [.ref 59]) rfl ?_
    obtain ⟨r1, hr1, H⟩ := H
    refine Ev.call (y := 305) (args := [.ref 59]) (rest := []) (r := (some (.int r1))) rfl hr1 ?_
    show Ev 2 307 54 [some (.ref 59), some (.int x1), some (.int 0), none] [.int r1] _ _
    subst H
    exact Ev.ret rfl
  replace H := H.2
  by_cases hw3 : x1 = 3
  · replace H := H.1 hw3
    refine Ev.sw (p := gw_tsw 3 89 0 5 #[37, 42, 47, 52, 57, 62] x1) (pc' := 55) (L' := [some (.ref 59), some (.int x1), some (.int 0), none]) (st' := []) rfl (by rw [hw3]; decide +kernel) ?_
    refine Ev.steps 2 (pc' := 59) (L' := [some (.ref 59), some (.int x1), some (.int 0), none]) (st' := [.int ((M 59) 3)]) rfl ?_
    subst H
    exact Ev.ret rfl
  replace H := H.2
  by_cases hw4 : x1 = 4
  · replace H := H.1 hw4
    refine Ev.sw (p := gw_tsw 3 89 0 5 #[37, 42, 47, 52, 57, 62] x1) (pc' := 60) (L' := [some (.ref 59), some (.int x1), some (.int 0), none]) (st' := []) rfl (by rw [hw4]; decide +kernel) ?_
    refine Ev.steps 2 (pc' := 64) (L' := [some (.ref 59), some (.int x1), some (.int 0), none]) (st' := [.int ((M 59) 36)]) rfl ?_
    subst H
    exact Ev.ret rfl
  replace H := H.2
  by_cases hw5 : x1 = 5
  · replace H := H.1 hw5
    refine Ev.sw (p := gw_tsw 3 89 0 5 #[37, 42, 47, 52, 57, 62] x1) (pc' := 65) (L' := [some (.ref 59), some (.int x1), some (.int 0), none]) (st' := []) rfl (by rw [hw5]; decide +kernel) ?_
    refine Ev.steps 2 (pc' := 67) (L' := [some (.ref 59), some (.int x1), some (.int 0), some (.int 0)]) (st' := []) rfl ?_
    exact Ev.weak [some (.ref 59), none, some (.int 0), some (.int 0)] (gw_leb_le ⟨rfl, rfl, rfl, trivial⟩) H
  replace H := H.2
  replace H := H hw0 hw1 hw2 hw3 hw4 hw5
  refine Ev.sw (p := gw_tsw 3 89 0 5 #[37, 42, 47, 52, 57, 62] x1) (pc' := 92) (L' := [some (.ref 59), some (.int x1), some (.int 0), none]) (st' := []) rfl (gw_ts_df (by decide +kernel) (by
      intro k h1 h2
      have h3 : k = 0 ∨ k = 1 ∨ k = 2 ∨ k = 3 ∨ k = 4 ∨ k = 5 := by omega
      rcases h3 with rfl | rfl | rfl | rfl | rfl | rfl
      · exact fun h => hw0 (h.trans (by decide +kernel))
      · exact fun h => hw1 (h.trans (by decide +kernel))
      · exact fun h => hw2 (h.trans (by decide +kernel))
      · exact fun h => hw3 (h.trans (by decide +kernel))
      · exact fun h => hw4 (h.trans (by decide +kernel))
      · exact fun h => hw5 (h.trans (by decide +kernel)))) ?_
  refine Ev.steps 1 (pc' := 94) (L' := [some (.ref 59), some (.int x1), some (.int 0), none]) (st' := [.int (-102)]) rfl ?_
  subst H
  exact Ev.ret rfl

set_option maxRecDepth 20000 in
theorem w307_67 {E : gw_N} {M : Mem} {res : Option Value × gw_H} {x2 : Int32} {x3 : Int32} (H : (((F243 M) ≤ x3 → res = (some (.int x2), hs E M)) ∧ (¬ (F243 M) ≤ x3 → (inb x3 64 ∧ Ev 2 307 67 [some (.ref 59), none, some (.int (x2 + ((M 77) (x3 : Int32).toNatClampNeg))), some (.int (x3 + 1))] [] (hs E M) res)))) : Ev 2 307 67 [some (.ref 59), none, some (.int x2), some (.int x3)] [] (hs E M) res := by
  refine Ev.steps 2 (pc' := 69) (L' := [some (.ref 59), none, some (.int x2), some (.int x3)]) (st' := [.ref 59, .int x3]) rfl ?_
  refine Ev.call (y := 243) (args := [.ref 59]) (rest := [.int x3]) (r := some (.int (F243 M))) rfl (s243) ?_
  show Ev 2 307 72 [some (.ref 59), none, some (.int x2), some (.int x3)] [.int (F243 M), .int x3] _ _
  refine Ev.steps 1 (pc' := if (F243 M) ≤ x3 then 90 else 75) (L' := [some (.ref 59), none, some (.int x2), some (.int x3)]) (st' := []) rfl ?_
  refine Ev_ite (fun hc => ?_) (fun hc => ?_)
  · replace H := H.1 hc
    refine Ev.steps 1 (pc' := 91) (L' := [some (.ref 59), none, some (.int x2), some (.int x3)]) (st' := [.int x2]) rfl ?_
    subst H
    exact Ev.ret rfl
  · replace H := H.2 hc
    refine Ev.steps 4 (pc' := 81) (L' := [some (.ref 59), none, some (.int x2), some (.int x3)]) (st' := [.int x3, .ref 77, .int x2]) rfl ?_
    refine Ev.rd (i := x3) (n := 64) (pc' := 82) (L' := [some (.ref 59), none, some (.int x2), some (.int x3)]) (st' := [.int ((M 77) (x3 : Int32).toNatClampNeg), .int x2]) H.1 rfl ?_
    replace H := H.2
    refine Ev.steps 4 (pc' := 67) (L' := [some (.ref 59), none, some (.int (x2 + ((M 77) (x3 : Int32).toNatClampNeg))), some (.int (x3 + 1))]) (st' := []) rfl ?_
    exact Ev.weak [some (.ref 59), none, some (.int (x2 + ((M 77) (x3 : Int32).toNatClampNeg))), some (.int (x3 + 1))] (gw_leb_le ⟨rfl, rfl, rfl, trivial⟩) H

-- 308 GlassWiresModel digest ()J
set_option maxRecDepth 20000 in
theorem w308_0 {E : gw_N} {M : Mem} {res : Option Value × gw_H}  (H : Ev 2 308 24 [some (.ref 59), some (.long ((31 * (7223 + (Int32.toInt64 ((M 59) 0)))) + (Int32.toInt64 ((M 59) 1)))), none, some (.int 0), none] [] (hs E M) res) : Ev 2 308 0 [some (.ref 59), none, none, none, none] [] (hs E M) res := by
  refine Ev.steps 16 (pc' := 24) (L' := [some (.ref 59), some (.long ((31 * (7223 + (Int32.toInt64 ((M 59) 0)))) + (Int32.toInt64 ((M 59) 1)))), none, some (.int 0), none]) (st' := []) rfl ?_
  exact Ev.weak [some (.ref 59), some (.long ((31 * (7223 + (Int32.toInt64 ((M 59) 0)))) + (Int32.toInt64 ((M 59) 1)))), none, some (.int 0), none] (gw_leb_le ⟨rfl, rfl, rfl, trivial⟩) H

set_option maxRecDepth 20000 in
theorem w308_24 {E : gw_N} {M : Mem} {res : Option Value × gw_H} {x1 : Int64} {x3 : Int32} (H : ((((M 59) 4) ≤ x3 → Ev 2 308 140 [some (.ref 59), some (.long x1), none, some (.int 0), none] [] (hs E M) res) ∧ (¬ ((M 59) 4) ≤ x3 → (inb x3 30 ∧ ((((M 64) (x3 : Int32).toNatClampNeg) = 0 → (inb x3 30 ∧ ((((M 65) (x3 : Int32).toNatClampNeg) = 0 → Ev 2 308 79 [some (.ref 59), some (.long ((31 * ((31 * x1) + (Int32.toInt64 0))) + (Int32.toInt64 0))), none, some (.int x3), some (.int 0)] [] (hs E M) res) ∧ (¬ ((M 65) (x3 : Int32).toNatClampNeg) = 0 → Ev 2 308 79 [some (.ref 59), some (.long ((31 * ((31 * x1) + (Int32.toInt64 0))) + (Int32.toInt64 1))), none, some (.int x3), some (.int 0)] [] (hs E M) res)))) ∧ (¬ ((M 64) (x3 : Int32).toNatClampNeg) = 0 → (inb x3 30 ∧ ((((M 65) (x3 : Int32).toNatClampNeg) = 0 → Ev 2 308 79 [some (.ref 59), some (.long ((31 * ((31 * x1) + (Int32.toInt64 1))) + (Int32.toInt64 0))), none, some (.int x3), some (.int 0)] [] (hs E M) res) ∧ (¬ ((M 65) (x3 : Int32).toNatClampNeg) = 0 → Ev 2 308 79 [some (.ref 59), some (.long ((31 * ((31 * x1) + (Int32.toInt64 1))) + (Int32.toInt64 1))), none, some (.int x3), some (.int 0)] [] (hs E M) res))))))))) : Ev 2 308 24 [some (.ref 59), some (.long x1), none, some (.int x3), none] [] (hs E M) res := by
  refine Ev.steps 4 (pc' := if ((M 59) 4) ≤ x3 then 138 else 32) (L' := [some (.ref 59), some (.long x1), none, some (.int x3), none]) (st' := []) rfl ?_
  refine Ev_ite (fun hc => ?_) (fun hc => ?_)
  · replace H := H.1 hc
    refine Ev.steps 2 (pc' := 140) (L' := [some (.ref 59), some (.long x1), none, some (.int 0), none]) (st' := []) rfl ?_
    exact Ev.weak [some (.ref 59), some (.long x1), none, some (.int 0), none] (gw_leb_le ⟨rfl, rfl, rfl, trivial⟩) H
  · replace H := H.2 hc
    refine Ev.steps 6 (pc' := 42) (L' := [some (.ref 59), some (.long x1), none, some (.int x3), none]) (st' := [.int x3, .ref 64, .long (31 * x1)]) rfl ?_
    refine Ev.rd (i := x3) (n := 30) (pc' := 43) (L' := [some (.ref 59), some (.long x1), none, some (.int x3), none]) (st' := [.int ((M 64) (x3 : Int32).toNatClampNeg), .long (31 * x1)]) H.1 rfl ?_
    replace H := H.2
    refine Ev.steps 1 (pc' := if ((M 64) (x3 : Int32).toNatClampNeg) = 0 then 50 else 46) (L' := [some (.ref 59), some (.long x1), none, some (.int x3), none]) (st' := [.long (31 * x1)]) rfl ?_
    refine Ev_ite (fun hc => ?_) (fun hc => ?_)
    · replace H := H.1 hc
      refine Ev.steps 10 (pc' := 64) (L' := [some (.ref 59), some (.long ((31 * x1) + (Int32.toInt64 0))), none, some (.int x3), none]) (st' := [.int x3, .ref 65, .long (31 * ((31 * x1) + (Int32.toInt64 0)))]) rfl ?_
      refine Ev.rd (i := x3) (n := 30) (pc' := 65) (L' := [some (.ref 59), some (.long ((31 * x1) + (Int32.toInt64 0))), none, some (.int x3), none]) (st' := [.int ((M 65) (x3 : Int32).toNatClampNeg), .long (31 * ((31 * x1) + (Int32.toInt64 0)))]) H.1 rfl ?_
      replace H := H.2
      refine Ev.steps 1 (pc' := if ((M 65) (x3 : Int32).toNatClampNeg) = 0 then 72 else 68) (L' := [some (.ref 59), some (.long ((31 * x1) + (Int32.toInt64 0))), none, some (.int x3), none]) (st' := [.long (31 * ((31 * x1) + (Int32.toInt64 0)))]) rfl ?_
      refine Ev_ite (fun hc => ?_) (fun hc => ?_)
      · replace H := H.1 hc
        refine Ev.steps 6 (pc' := 79) (L' := [some (.ref 59), some (.long ((31 * ((31 * x1) + (Int32.toInt64 0))) + (Int32.toInt64 0))), none, some (.int x3), some (.int 0)]) (st' := []) rfl ?_
        exact Ev.weak [some (.ref 59), some (.long ((31 * ((31 * x1) + (Int32.toInt64 0))) + (Int32.toInt64 0))), none, some (.int x3), some (.int 0)] (gw_leb_le ⟨rfl, rfl, rfl, rfl, trivial⟩) H
      · replace H := H.2 hc
        refine Ev.steps 7 (pc' := 79) (L' := [some (.ref 59), some (.long ((31 * ((31 * x1) + (Int32.toInt64 0))) + (Int32.toInt64 1))), none, some (.int x3), some (.int 0)]) (st' := []) rfl ?_
        exact Ev.weak [some (.ref 59), some (.long ((31 * ((31 * x1) + (Int32.toInt64 0))) + (Int32.toInt64 1))), none, some (.int x3), some (.int 0)] (gw_leb_le ⟨rfl, rfl, rfl, rfl, trivial⟩) H
    · replace H := H.2 hc
      refine Ev.steps 11 (pc' := 64) (L' := [some (.ref 59), some (.long ((31 * x1) + (Int32.toInt64 1))), none, some (.int x3), none]) (st' := [.int x3, .ref 65, .long (31 * ((31 * x1) + (Int32.toInt64 1)))]) rfl ?_
      refine Ev.rd (i := x3) (n := 30) (pc' := 65) (L' := [some (.ref 59), some (.long ((31 * x1) + (Int32.toInt64 1))), none, some (.int x3), none]) (st' := [.int ((M 65) (x3 : Int32).toNatClampNeg), .long (31 * ((31 * x1) + (Int32.toInt64 1)))]) H.1 rfl ?_
      replace H := H.2
      refine Ev.steps 1 (pc' := if ((M 65) (x3 : Int32).toNatClampNeg) = 0 then 72 else 68) (L' := [some (.ref 59), some (.long ((31 * x1) + (Int32.toInt64 1))), none, some (.int x3), none]) (st' := [.long (31 * ((31 * x1) + (Int32.toInt64 1)))]) rfl ?_
      refine Ev_ite (fun hc => ?_) (fun hc => ?_)
      · replace H := H.1 hc
        refine Ev.steps 6 (pc' := 79) (L' := [some (.ref 59), some (.long ((31 * ((31 * x1) + (Int32.toInt64 1))) + (Int32.toInt64 0))), none, some (.int x3), some (.int 0)]) (st' := []) rfl ?_
        exact Ev.weak [some (.ref 59), some (.long ((31 * ((31 * x1) + (Int32.toInt64 1))) + (Int32.toInt64 0))), none, some (.int x3), some (.int 0)] (gw_leb_le ⟨rfl, rfl, rfl, rfl, trivial⟩) H
      · replace H := H.2 hc
        refine Ev.steps 7 (pc' := 79) (L' := [some (.ref 59), some (.long ((31 * ((31 * x1) + (Int32.toInt64 1))) + (Int32.toInt64 1))), none, some (.int x3), some (.int 0)]) (st' := []) rfl ?_
        exact Ev.weak [some (.ref 59), some (.long ((31 * ((31 * x1) + (Int32.toInt64 1))) + (Int32.toInt64 1))), none, some (.int x3), some (.int 0)] (gw_leb_le ⟨rfl, rfl, rfl, rfl, trivial⟩) H

set_option maxRecDepth 20000 in
theorem w308_140 {E : gw_N} {M : Mem} {res : Option Value × gw_H} {x1 : Int64} {x3 : Int32} (H : ((8 ≤ x3 → Ev 2 308 196 [some (.ref 59), some (.long x1), none, some (.int 0), none] [] (hs E M) res) ∧ (¬ 8 ≤ x3 → (inb x3 8 ∧ (inb x3 8 ∧ (inb x3 8 ∧ Ev 2 308 140 [some (.ref 59), some (.long ((31 * ((31 * ((31 * x1) + (Int32.toInt64 ((M 73) (x3 : Int32).toNatClampNeg)))) + (Int32.toInt64 ((M 74) (x3 : Int32).toNatClampNeg)))) + (Int32.toInt64 ((M 75) (x3 : Int32).toNatClampNeg)))), none, some (.int (x3 + 1)), none] [] (hs E M) res)))))) : Ev 2 308 140 [some (.ref 59), some (.long x1), none, some (.int x3), none] [] (hs E M) res := by
  refine Ev.steps 3 (pc' := if 8 ≤ x3 then 194 else 146) (L' := [some (.ref 59), some (.long x1), none, some (.int x3), none]) (st' := []) rfl ?_
  refine Ev_ite (fun hc => ?_) (fun hc => ?_)
  · replace H := H.1 hc
    refine Ev.steps 2 (pc' := 196) (L' := [some (.ref 59), some (.long x1), none, some (.int 0), none]) (st' := []) rfl ?_
    exact Ev.weak [some (.ref 59), some (.long x1), none, some (.int 0), none] (gw_leb_le ⟨rfl, rfl, rfl, trivial⟩) H
  · replace H := H.2 hc
    refine Ev.steps 6 (pc' := 156) (L' := [some (.ref 59), some (.long x1), none, some (.int x3), none]) (st' := [.int x3, .ref 73, .long (31 * x1)]) rfl ?_
    refine Ev.rd (i := x3) (n := 8) (pc' := 157) (L' := [some (.ref 59), some (.long x1), none, some (.int x3), none]) (st' := [.int ((M 73) (x3 : Int32).toNatClampNeg), .long (31 * x1)]) H.1 rfl ?_
    replace H := H.2
    refine Ev.steps 9 (pc' := 170) (L' := [some (.ref 59), some (.long ((31 * x1) + (Int32.toInt64 ((M 73) (x3 : Int32).toNatClampNeg)))), none, some (.int x3), none]) (st' := [.int x3, .ref 74, .long (31 * ((31 * x1) + (Int32.toInt64 ((M 73) (x3 : Int32).toNatClampNeg))))]) rfl ?_
    refine Ev.rd (i := x3) (n := 8) (pc' := 171) (L' := [some (.ref 59), some (.long ((31 * x1) + (Int32.toInt64 ((M 73) (x3 : Int32).toNatClampNeg)))), none, some (.int x3), none]) (st' := [.int ((M 74) (x3 : Int32).toNatClampNeg), .long (31 * ((31 * x1) + (Int32.toInt64 ((M 73) (x3 : Int32).toNatClampNeg))))]) H.1 rfl ?_
    replace H := H.2
    refine Ev.steps 9 (pc' := 184) (L' := [some (.ref 59), some (.long ((31 * ((31 * x1) + (Int32.toInt64 ((M 73) (x3 : Int32).toNatClampNeg)))) + (Int32.toInt64 ((M 74) (x3 : Int32).toNatClampNeg)))), none, some (.int x3), none]) (st' := [.int x3, .ref 75, .long (31 * ((31 * ((31 * x1) + (Int32.toInt64 ((M 73) (x3 : Int32).toNatClampNeg)))) + (Int32.toInt64 ((M 74) (x3 : Int32).toNatClampNeg))))]) rfl ?_
    refine Ev.rd (i := x3) (n := 8) (pc' := 185) (L' := [some (.ref 59), some (.long ((31 * ((31 * x1) + (Int32.toInt64 ((M 73) (x3 : Int32).toNatClampNeg)))) + (Int32.toInt64 ((M 74) (x3 : Int32).toNatClampNeg)))), none, some (.int x3), none]) (st' := [.int ((M 75) (x3 : Int32).toNatClampNeg), .long (31 * ((31 * ((31 * x1) + (Int32.toInt64 ((M 73) (x3 : Int32).toNatClampNeg)))) + (Int32.toInt64 ((M 74) (x3 : Int32).toNatClampNeg))))]) H.1 rfl ?_
    replace H := H.2
    refine Ev.steps 5 (pc' := 140) (L' := [some (.ref 59), some (.long ((31 * ((31 * ((31 * x1) + (Int32.toInt64 ((M 73) (x3 : Int32).toNatClampNeg)))) + (Int32.toInt64 ((M 74) (x3 : Int32).toNatClampNeg)))) + (Int32.toInt64 ((M 75) (x3 : Int32).toNatClampNeg)))), none, some (.int (x3 + 1)), none]) (st' := []) rfl ?_
    exact Ev.weak [some (.ref 59), some (.long ((31 * ((31 * ((31 * x1) + (Int32.toInt64 ((M 73) (x3 : Int32).toNatClampNeg)))) + (Int32.toInt64 ((M 74) (x3 : Int32).toNatClampNeg)))) + (Int32.toInt64 ((M 75) (x3 : Int32).toNatClampNeg)))), none, some (.int (x3 + 1)), none] (gw_leb_le ⟨rfl, rfl, rfl, trivial⟩) H

set_option maxRecDepth 20000 in
theorem w308_79 {E : gw_N} {M : Mem} {res : Option Value × gw_H} {x1 : Int64} {x3 : Int32} {x4 : Int32} (H : (inb x3 30 ∧ ((((M 63) (x3 : Int32).toNatClampNeg) < x4 → Ev 2 308 24 [some (.ref 59), some (.long x1), none, some (.int (x3 + 1)), none] [] (hs E M) res) ∧ (¬ ((M 63) (x3 : Int32).toNatClampNeg) < x4 → (inb ((25 * x3) + x4) 750 ∧ (inb ((25 * x3) + x4) 750 ∧ Ev 2 308 79 [some (.ref 59), some (.long ((31 * x1) + (Int32.toInt64 ((10 * ((M 62) (((25 * x3) + x4) : Int32).toNatClampNeg)) + ((M 61) (((25 * x3) + x4) : Int32).toNatClampNeg))))), none, some (.int x3), some (.int (x4 + 1))] [] (hs E M) res)))))) : Ev 2 308 79 [some (.ref 59), some (.long x1), none, some (.int x3), some (.int x4)] [] (hs E M) res := by
  refine Ev.steps 4 (pc' := 86) (L' := [some (.ref 59), some (.long x1), none, some (.int x3), some (.int x4)]) (st' := [.int x3, .ref 63, .int x4]) rfl ?_
  refine Ev.rd (i := x3) (n := 30) (pc' := 87) (L' := [some (.ref 59), some (.long x1), none, some (.int x3), some (.int x4)]) (st' := [.int ((M 63) (x3 : Int32).toNatClampNeg), .int x4]) H.1 rfl ?_
  replace H := H.2
  refine Ev.steps 1 (pc' := if ((M 63) (x3 : Int32).toNatClampNeg) < x4 then 132 else 90) (L' := [some (.ref 59), some (.long x1), none, some (.int x3), some (.int x4)]) (st' := []) rfl ?_
  refine Ev_ite (fun hc => ?_) (fun hc => ?_)
  · replace H := H.1 hc
    refine Ev.steps 2 (pc' := 24) (L' := [some (.ref 59), some (.long x1), none, some (.int (x3 + 1)), some (.int x4)]) (st' := []) rfl ?_
    exact Ev.weak [some (.ref 59), some (.long x1), none, some (.int (x3 + 1)), none] (gw_leb_le ⟨rfl, rfl, rfl, trivial⟩) H
  · replace H := H.2 hc
    refine Ev.steps 11 (pc' := 108) (L' := [some (.ref 59), some (.long x1), none, some (.int x3), some (.int x4)]) (st' := [.int ((25 * x3) + x4), .ref 62, .int 10, .long (31 * x1)]) rfl ?_
    refine Ev.rd (i := ((25 * x3) + x4)) (n := 750) (pc' := 109) (L' := [some (.ref 59), some (.long x1), none, some (.int x3), some (.int x4)]) (st' := [.int ((M 62) (((25 * x3) + x4) : Int32).toNatClampNeg), .int 10, .long (31 * x1)]) H.1 rfl ?_
    replace H := H.2
    refine Ev.steps 8 (pc' := 121) (L' := [some (.ref 59), some (.long x1), none, some (.int x3), some (.int x4)]) (st' := [.int ((25 * x3) + x4), .ref 61, .int (10 * ((M 62) (((25 * x3) + x4) : Int32).toNatClampNeg)), .long (31 * x1)]) rfl ?_
    refine Ev.rd (i := ((25 * x3) + x4)) (n := 750) (pc' := 122) (L' := [some (.ref 59), some (.long x1), none, some (.int x3), some (.int x4)]) (st' := [.int ((M 61) (((25 * x3) + x4) : Int32).toNatClampNeg), .int (10 * ((M 62) (((25 * x3) + x4) : Int32).toNatClampNeg)), .long (31 * x1)]) H.1 rfl ?_
    replace H := H.2
    refine Ev.steps 6 (pc' := 79) (L' := [some (.ref 59), some (.long ((31 * x1) + (Int32.toInt64 ((10 * ((M 62) (((25 * x3) + x4) : Int32).toNatClampNeg)) + ((M 61) (((25 * x3) + x4) : Int32).toNatClampNeg))))), none, some (.int x3), some (.int (x4 + 1))]) (st' := []) rfl ?_
    exact Ev.weak [some (.ref 59), some (.long ((31 * x1) + (Int32.toInt64 ((10 * ((M 62) (((25 * x3) + x4) : Int32).toNatClampNeg)) + ((M 61) (((25 * x3) + x4) : Int32).toNatClampNeg))))), none, some (.int x3), some (.int (x4 + 1))] (gw_leb_le ⟨rfl, rfl, rfl, rfl, trivial⟩) H

set_option maxRecDepth 20000 in
theorem w308_196 {E : gw_N} {M : Mem} {res : Option Value × gw_H} {x1 : Int64} {x3 : Int32} (H : ((8 ≤ x3 → Ev 2 308 292 [some (.ref 59), some (.long ((31 * ((31 * ((31 * x1) + (Int32.toInt64 ((M 59) 22)))) + (Int32.toInt64 ((M 59) 23)))) + (Int32.toInt64 ((M 59) 24)))), none, some (.int 0), none] [] (hs E M) res) ∧ (¬ 8 ≤ x3 → Ev 2 308 207 [some (.ref 59), some (.long x1), none, some (.int x3), some (.int (x3 + 1))] [] (hs E M) res))) : Ev 2 308 196 [some (.ref 59), some (.long x1), none, some (.int x3), none] [] (hs E M) res := by
  refine Ev.steps 3 (pc' := if 8 ≤ x3 then 254 else 202) (L' := [some (.ref 59), some (.long x1), none, some (.int x3), none]) (st' := []) rfl ?_
  refine Ev_ite (fun hc => ?_) (fun hc => ?_)
  · replace H := H.1 hc
    refine Ev.steps 26 (pc' := 292) (L' := [some (.ref 59), some (.long ((31 * ((31 * ((31 * x1) + (Int32.toInt64 ((M 59) 22)))) + (Int32.toInt64 ((M 59) 23)))) + (Int32.toInt64 ((M 59) 24)))), none, some (.int 0), none]) (st' := []) rfl ?_
    exact Ev.weak [some (.ref 59), some (.long ((31 * ((31 * ((31 * x1) + (Int32.toInt64 ((M 59) 22)))) + (Int32.toInt64 ((M 59) 23)))) + (Int32.toInt64 ((M 59) 24)))), none, some (.int 0), none] (gw_leb_le ⟨rfl, rfl, rfl, trivial⟩) H
  · replace H := H.2 hc
    refine Ev.steps 4 (pc' := 207) (L' := [some (.ref 59), some (.long x1), none, some (.int x3), some (.int (x3 + 1))]) (st' := []) rfl ?_
    exact Ev.weak [some (.ref 59), some (.long x1), none, some (.int x3), some (.int (x3 + 1))] (gw_leb_le ⟨rfl, rfl, rfl, rfl, trivial⟩) H

set_option maxRecDepth 20000 in
theorem w308_292 {E : gw_N} {M : Mem} {res : Option Value × gw_H} {x1 : Int64} {x3 : Int32} (H : (((F243 M) ≤ x3 → Ev 2 308 424 [some (.ref 59), some (.long ((31 * ((31 * ((31 * x1) + (Int32.toInt64 ((M 59) 34)))) + (Int32.toInt64 ((M 59) 35)))) + (Int32.toInt64 ((M 59) 29)))), none, some (.int 0), none] [] (hs E M) res) ∧ (¬ (F243 M) ≤ x3 → Ev 2 308 303 [some (.ref 59), some (.long x1), none, some (.int x3), some (.int 0)] [] (hs E M) res))) : Ev 2 308 292 [some (.ref 59), some (.long x1), none, some (.int x3), none] [] (hs E M) res := by
  refine Ev.steps 2 (pc' := 294) (L' := [some (.ref 59), some (.long x1), none, some (.int x3), none]) (st' := [.ref 59, .int x3]) rfl ?_
  refine Ev.call (y := 243) (args := [.ref 59]) (rest := [.int x3]) (r := some (.int (F243 M))) rfl (s243) ?_
  show Ev 2 308 297 [some (.ref 59), some (.long x1), none, some (.int x3), none] [.int (F243 M), .int x3] _ _
  refine Ev.steps 1 (pc' := if (F243 M) ≤ x3 then 386 else 300) (L' := [some (.ref 59), some (.long x1), none, some (.int x3), none]) (st' := []) rfl ?_
  refine Ev_ite (fun hc => ?_) (fun hc => ?_)
  · replace H := H.1 hc
    refine Ev.steps 26 (pc' := 424) (L' := [some (.ref 59), some (.long ((31 * ((31 * ((31 * x1) + (Int32.toInt64 ((M 59) 34)))) + (Int32.toInt64 ((M 59) 35)))) + (Int32.toInt64 ((M 59) 29)))), none, some (.int 0), none]) (st' := []) rfl ?_
    exact Ev.weak [some (.ref 59), some (.long ((31 * ((31 * ((31 * x1) + (Int32.toInt64 ((M 59) 34)))) + (Int32.toInt64 ((M 59) 35)))) + (Int32.toInt64 ((M 59) 29)))), none, some (.int 0), none] (gw_leb_le ⟨rfl, rfl, rfl, trivial⟩) H
  · replace H := H.2 hc
    refine Ev.steps 2 (pc' := 303) (L' := [some (.ref 59), some (.long x1), none, some (.int x3), some (.int 0)]) (st' := []) rfl ?_
    exact Ev.weak [some (.ref 59), some (.long x1), none, some (.int x3), some (.int 0)] (gw_leb_le ⟨rfl, rfl, rfl, rfl, trivial⟩) H

set_option maxRecDepth 20000 in
theorem w308_207 {E : gw_N} {M : Mem} {res : Option Value × gw_H} {x1 : Int64} {x3 : Int32} {x4 : Int32} (H : ((8 ≤ x4 → Ev 2 308 196 [some (.ref 59), some (.long x1), none, some (.int (x3 + 1)), none] [] (hs E M) res) ∧ (¬ 8 ≤ x4 → (inb ((8 * x3) + x4) 64 ∧ ((((M 76) (((8 * x3) + x4) : Int32).toNatClampNeg) = 0 → Ev 2 308 207 [some (.ref 59), some (.long ((31 * x1) + (Int32.toInt64 0))), none, some (.int x3), some (.int (x4 + 1))] [] (hs E M) res) ∧ (¬ ((M 76) (((8 * x3) + x4) : Int32).toNatClampNeg) = 0 → Ev 2 308 207 [some (.ref 59), some (.long ((31 * x1) + (Int32.toInt64 1))), none, some (.int x3), some (.int (x4 + 1))] [] (hs E M) res)))))) : Ev 2 308 207 [some (.ref 59), some (.long x1), none, some (.int x3), some (.int x4)] [] (hs E M) res := by
  refine Ev.steps 3 (pc' := if 8 ≤ x4 then 248 else 214) (L' := [some (.ref 59), some (.long x1), none, some (.int x3), some (.int x4)]) (st' := []) rfl ?_
  refine Ev_ite (fun hc => ?_) (fun hc => ?_)
  · replace H := H.1 hc
    refine Ev.steps 2 (pc' := 196) (L' := [some (.ref 59), some (.long x1), none, some (.int (x3 + 1)), some (.int x4)]) (st' := []) rfl ?_
    exact Ev.weak [some (.ref 59), some (.long x1), none, some (.int (x3 + 1)), none] (gw_leb_le ⟨rfl, rfl, rfl, trivial⟩) H
  · replace H := H.2 hc
    refine Ev.steps 10 (pc' := 230) (L' := [some (.ref 59), some (.long x1), none, some (.int x3), some (.int x4)]) (st' := [.int ((8 * x3) + x4), .ref 76, .long (31 * x1)]) rfl ?_
    refine Ev.rd (i := ((8 * x3) + x4)) (n := 64) (pc' := 231) (L' := [some (.ref 59), some (.long x1), none, some (.int x3), some (.int x4)]) (st' := [.int ((M 76) (((8 * x3) + x4) : Int32).toNatClampNeg), .long (31 * x1)]) H.1 rfl ?_
    replace H := H.2
    refine Ev.steps 1 (pc' := if ((M 76) (((8 * x3) + x4) : Int32).toNatClampNeg) = 0 then 238 else 234) (L' := [some (.ref 59), some (.long x1), none, some (.int x3), some (.int x4)]) (st' := [.long (31 * x1)]) rfl ?_
    refine Ev_ite (fun hc => ?_) (fun hc => ?_)
    · replace H := H.1 hc
      refine Ev.steps 6 (pc' := 207) (L' := [some (.ref 59), some (.long ((31 * x1) + (Int32.toInt64 0))), none, some (.int x3), some (.int (x4 + 1))]) (st' := []) rfl ?_
      exact Ev.weak [some (.ref 59), some (.long ((31 * x1) + (Int32.toInt64 0))), none, some (.int x3), some (.int (x4 + 1))] (gw_leb_le ⟨rfl, rfl, rfl, rfl, trivial⟩) H
    · replace H := H.2 hc
      refine Ev.steps 7 (pc' := 207) (L' := [some (.ref 59), some (.long ((31 * x1) + (Int32.toInt64 1))), none, some (.int x3), some (.int (x4 + 1))]) (st' := []) rfl ?_
      exact Ev.weak [some (.ref 59), some (.long ((31 * x1) + (Int32.toInt64 1))), none, some (.int x3), some (.int (x4 + 1))] (gw_leb_le ⟨rfl, rfl, rfl, rfl, trivial⟩) H

set_option maxRecDepth 20000 in
theorem w308_424 {E : gw_N} {M : Mem} {res : Option Value × gw_H} {x1 : Int64} {x3 : Int32} (H : ((((M 59) 36) ≤ x3 → Ev 2 308 468 [some (.ref 59), some (.long x1), none, some (.int 0), none] [] (hs E M) res) ∧ (¬ ((M 59) 36) ≤ x3 → (inb x3 8 ∧ (inb x3 8 ∧ Ev 2 308 424 [some (.ref 59), some (.long ((31 * ((31 * x1) + (Int32.toInt64 ((M 84) (x3 : Int32).toNatClampNeg)))) + (Int32.toInt64 ((M 85) (x3 : Int32).toNatClampNeg)))), none, some (.int (x3 + 1)), none] [] (hs E M) res))))) : Ev 2 308 424 [some (.ref 59), some (.long x1), none, some (.int x3), none] [] (hs E M) res := by
  refine Ev.steps 4 (pc' := if ((M 59) 36) ≤ x3 then 466 else 432) (L' := [some (.ref 59), some (.long x1), none, some (.int x3), none]) (st' := []) rfl ?_
  refine Ev_ite (fun hc => ?_) (fun hc => ?_)
  · replace H := H.1 hc
    refine Ev.steps 2 (pc' := 468) (L' := [some (.ref 59), some (.long x1), none, some (.int 0), none]) (st' := []) rfl ?_
    exact Ev.weak [some (.ref 59), some (.long x1), none, some (.int 0), none] (gw_leb_le ⟨rfl, rfl, rfl, trivial⟩) H
  · replace H := H.2 hc
    refine Ev.steps 6 (pc' := 442) (L' := [some (.ref 59), some (.long x1), none, some (.int x3), none]) (st' := [.int x3, .ref 84, .long (31 * x1)]) rfl ?_
    refine Ev.rd (i := x3) (n := 8) (pc' := 443) (L' := [some (.ref 59), some (.long x1), none, some (.int x3), none]) (st' := [.int ((M 84) (x3 : Int32).toNatClampNeg), .long (31 * x1)]) H.1 rfl ?_
    replace H := H.2
    refine Ev.steps 9 (pc' := 456) (L' := [some (.ref 59), some (.long ((31 * x1) + (Int32.toInt64 ((M 84) (x3 : Int32).toNatClampNeg)))), none, some (.int x3), none]) (st' := [.int x3, .ref 85, .long (31 * ((31 * x1) + (Int32.toInt64 ((M 84) (x3 : Int32).toNatClampNeg))))]) rfl ?_
    refine Ev.rd (i := x3) (n := 8) (pc' := 457) (L' := [some (.ref 59), some (.long ((31 * x1) + (Int32.toInt64 ((M 84) (x3 : Int32).toNatClampNeg)))), none, some (.int x3), none]) (st' := [.int ((M 85) (x3 : Int32).toNatClampNeg), .long (31 * ((31 * x1) + (Int32.toInt64 ((M 84) (x3 : Int32).toNatClampNeg))))]) H.1 rfl ?_
    replace H := H.2
    refine Ev.steps 5 (pc' := 424) (L' := [some (.ref 59), some (.long ((31 * ((31 * x1) + (Int32.toInt64 ((M 84) (x3 : Int32).toNatClampNeg)))) + (Int32.toInt64 ((M 85) (x3 : Int32).toNatClampNeg)))), none, some (.int (x3 + 1)), none]) (st' := []) rfl ?_
    exact Ev.weak [some (.ref 59), some (.long ((31 * ((31 * x1) + (Int32.toInt64 ((M 84) (x3 : Int32).toNatClampNeg)))) + (Int32.toInt64 ((M 85) (x3 : Int32).toNatClampNeg)))), none, some (.int (x3 + 1)), none] (gw_leb_le ⟨rfl, rfl, rfl, trivial⟩) H

set_option maxRecDepth 20000 in
theorem w308_303 {E : gw_N} {M : Mem} {res : Option Value × gw_H} {x1 : Int64} {x3 : Int32} {x4 : Int32} (H : (inb x3 64 ∧ ((((M 77) (x3 : Int32).toNatClampNeg) ≤ x4 → Ev 2 308 292 [some (.ref 59), some (.long x1), none, some (.int (x3 + 1)), none] [] (hs E M) res) ∧ (¬ ((M 77) (x3 : Int32).toNatClampNeg) ≤ x4 → (inb ((12 * x3) + x4) 768 ∧ (inb ((12 * x3) + x4) 768 ∧ (inb ((12 * x3) + x4) 768 ∧ Ev 2 308 303 [some (.ref 59), some (.long ((31 * ((31 * ((31 * x1) + (Int32.toInt64 ((M 78) (((12 * x3) + x4) : Int32).toNatClampNeg)))) + (Int32.toInt64 ((M 79) (((12 * x3) + x4) : Int32).toNatClampNeg)))) + (Int32.toInt64 ((M 80) (((12 * x3) + x4) : Int32).toNatClampNeg)))), none, some (.int x3), some (.int (x4 + 1))] [] (hs E M) res))))))) : Ev 2 308 303 [some (.ref 59), some (.long x1), none, some (.int x3), some (.int x4)] [] (hs E M) res := by
  refine Ev.steps 4 (pc' := 310) (L' := [some (.ref 59), some (.long x1), none, some (.int x3), some (.int x4)]) (st' := [.int x3, .ref 77, .int x4]) rfl ?_
  refine Ev.rd (i := x3) (n := 64) (pc' := 311) (L' := [some (.ref 59), some (.long x1), none, some (.int x3), some (.int x4)]) (st' := [.int ((M 77) (x3 : Int32).toNatClampNeg), .int x4]) H.1 rfl ?_
  replace H := H.2
  refine Ev.steps 1 (pc' := if ((M 77) (x3 : Int32).toNatClampNeg) ≤ x4 then 380 else 314) (L' := [some (.ref 59), some (.long x1), none, some (.int x3), some (.int x4)]) (st' := []) rfl ?_
  refine Ev_ite (fun hc => ?_) (fun hc => ?_)
  · replace H := H.1 hc
    refine Ev.steps 2 (pc' := 292) (L' := [some (.ref 59), some (.long x1), none, some (.int (x3 + 1)), some (.int x4)]) (st' := []) rfl ?_
    exact Ev.weak [some (.ref 59), some (.long x1), none, some (.int (x3 + 1)), none] (gw_leb_le ⟨rfl, rfl, rfl, trivial⟩) H
  · replace H := H.2 hc
    refine Ev.steps 10 (pc' := 330) (L' := [some (.ref 59), some (.long x1), none, some (.int x3), some (.int x4)]) (st' := [.int ((12 * x3) + x4), .ref 78, .long (31 * x1)]) rfl ?_
    refine Ev.rd (i := ((12 * x3) + x4)) (n := 768) (pc' := 331) (L' := [some (.ref 59), some (.long x1), none, some (.int x3), some (.int x4)]) (st' := [.int ((M 78) (((12 * x3) + x4) : Int32).toNatClampNeg), .long (31 * x1)]) H.1 rfl ?_
    replace H := H.2
    refine Ev.steps 13 (pc' := 350) (L' := [some (.ref 59), some (.long ((31 * x1) + (Int32.toInt64 ((M 78) (((12 * x3) + x4) : Int32).toNatClampNeg)))), none, some (.int x3), some (.int x4)]) (st' := [.int ((12 * x3) + x4), .ref 79, .long (31 * ((31 * x1) + (Int32.toInt64 ((M 78) (((12 * x3) + x4) : Int32).toNatClampNeg))))]) rfl ?_
    refine Ev.rd (i := ((12 * x3) + x4)) (n := 768) (pc' := 351) (L' := [some (.ref 59), some (.long ((31 * x1) + (Int32.toInt64 ((M 78) (((12 * x3) + x4) : Int32).toNatClampNeg)))), none, some (.int x3), some (.int x4)]) (st' := [.int ((M 79) (((12 * x3) + x4) : Int32).toNatClampNeg), .long (31 * ((31 * x1) + (Int32.toInt64 ((M 78) (((12 * x3) + x4) : Int32).toNatClampNeg))))]) H.1 rfl ?_
    replace H := H.2
    refine Ev.steps 13 (pc' := 370) (L' := [some (.ref 59), some (.long ((31 * ((31 * x1) + (Int32.toInt64 ((M 78) (((12 * x3) + x4) : Int32).toNatClampNeg)))) + (Int32.toInt64 ((M 79) (((12 * x3) + x4) : Int32).toNatClampNeg)))), none, some (.int x3), some (.int x4)]) (st' := [.int ((12 * x3) + x4), .ref 80, .long (31 * ((31 * ((31 * x1) + (Int32.toInt64 ((M 78) (((12 * x3) + x4) : Int32).toNatClampNeg)))) + (Int32.toInt64 ((M 79) (((12 * x3) + x4) : Int32).toNatClampNeg))))]) rfl ?_
    refine Ev.rd (i := ((12 * x3) + x4)) (n := 768) (pc' := 371) (L' := [some (.ref 59), some (.long ((31 * ((31 * x1) + (Int32.toInt64 ((M 78) (((12 * x3) + x4) : Int32).toNatClampNeg)))) + (Int32.toInt64 ((M 79) (((12 * x3) + x4) : Int32).toNatClampNeg)))), none, some (.int x3), some (.int x4)]) (st' := [.int ((M 80) (((12 * x3) + x4) : Int32).toNatClampNeg), .long (31 * ((31 * ((31 * x1) + (Int32.toInt64 ((M 78) (((12 * x3) + x4) : Int32).toNatClampNeg)))) + (Int32.toInt64 ((M 79) (((12 * x3) + x4) : Int32).toNatClampNeg))))]) H.1 rfl ?_
    replace H := H.2
    refine Ev.steps 5 (pc' := 303) (L' := [some (.ref 59), some (.long ((31 * ((31 * ((31 * x1) + (Int32.toInt64 ((M 78) (((12 * x3) + x4) : Int32).toNatClampNeg)))) + (Int32.toInt64 ((M 79) (((12 * x3) + x4) : Int32).toNatClampNeg)))) + (Int32.toInt64 ((M 80) (((12 * x3) + x4) : Int32).toNatClampNeg)))), none, some (.int x3), some (.int (x4 + 1))]) (st' := []) rfl ?_
    exact Ev.weak [some (.ref 59), some (.long ((31 * ((31 * ((31 * x1) + (Int32.toInt64 ((M 78) (((12 * x3) + x4) : Int32).toNatClampNeg)))) + (Int32.toInt64 ((M 79) (((12 * x3) + x4) : Int32).toNatClampNeg)))) + (Int32.toInt64 ((M 80) (((12 * x3) + x4) : Int32).toNatClampNeg)))), none, some (.int x3), some (.int (x4 + 1))] (gw_leb_le ⟨rfl, rfl, rfl, rfl, trivial⟩) H

set_option maxRecDepth 20000 in
theorem w308_468 {E : gw_N} {M : Mem} {res : Option Value × gw_H} {x1 : Int64} {x3 : Int32} (H : ((((M 59) 3) ≤ x3 → res = (some (.long x1), hs E M)) ∧ (¬ ((M 59) 3) ≤ x3 → (inb x3 40 ∧ Ev 2 308 468 [some (.ref 59), some (.long ((31 * x1) + (Int32.toInt64 ((M 60) (x3 : Int32).toNatClampNeg)))), none, some (.int (x3 + 1)), none] [] (hs E M) res)))) : Ev 2 308 468 [some (.ref 59), some (.long x1), none, some (.int x3), none] [] (hs E M) res := by
  refine Ev.steps 4 (pc' := if ((M 59) 3) ≤ x3 then 496 else 476) (L' := [some (.ref 59), some (.long x1), none, some (.int x3), none]) (st' := []) rfl ?_
  refine Ev_ite (fun hc => ?_) (fun hc => ?_)
  · replace H := H.1 hc
    refine Ev.steps 1 (pc' := 497) (L' := [some (.ref 59), some (.long x1), none, some (.int x3), none]) (st' := [.long x1]) rfl ?_
    subst H
    exact Ev.ret rfl
  · replace H := H.2 hc
    refine Ev.steps 6 (pc' := 486) (L' := [some (.ref 59), some (.long x1), none, some (.int x3), none]) (st' := [.int x3, .ref 60, .long (31 * x1)]) rfl ?_
    refine Ev.rd (i := x3) (n := 40) (pc' := 487) (L' := [some (.ref 59), some (.long x1), none, some (.int x3), none]) (st' := [.int ((M 60) (x3 : Int32).toNatClampNeg), .long (31 * x1)]) H.1 rfl ?_
    replace H := H.2
    refine Ev.steps 5 (pc' := 468) (L' := [some (.ref 59), some (.long ((31 * x1) + (Int32.toInt64 ((M 60) (x3 : Int32).toNatClampNeg)))), none, some (.int (x3 + 1)), none]) (st' := []) rfl ?_
    exact Ev.weak [some (.ref 59), some (.long ((31 * x1) + (Int32.toInt64 ((M 60) (x3 : Int32).toNatClampNeg)))), none, some (.int (x3 + 1)), none] (gw_leb_le ⟨rfl, rfl, rfl, trivial⟩) H

-- 21 GlassWires$Glass burn (II)V
set_option maxRecDepth 20000 in
theorem w21_0 {E : gw_N} {M : Mem} {res : Option Value × gw_H} {x1 : Int32} {x2 : Int32} (H : (inb x1 768 ∧ ((((M 48) (x1 : Int32).toNatClampNeg) = 1 → (inb x1 768 ∧ (P100 M ((M 46) (x1 : Int32).toNatClampNeg) ∧ ((x2 ≤ (F100 M ((M 46) (x1 : Int32).toNatClampNeg)) → res = (none, hs E M)) ∧ (¬ x2 ≤ (F100 M ((M 46) (x1 : Int32).toNatClampNeg)) → (inb x1 768 ∧ res = (none, hs E (up M 48 (upd (M 48) (x1 : Int32).toNatClampNeg 2))))))))) ∧ (¬ ((M 48) (x1 : Int32).toNatClampNeg) = 1 → res = (none, hs E M))))) : Ev 3 21 0 [some (.ref 44), some (.int x1), some (.int x2)] [] (hs E M) res := by
  refine Ev.steps 3 (pc' := 5) (L' := [some (.ref 44), some (.int x1), some (.int x2)]) (st' := [.int x1, .ref 48]) rfl ?_
  refine Ev.rd (i := x1) (n := 768) (pc' := 6) (L' := [some (.ref 44), some (.int x1), some (.int x2)]) (st' := [.int ((M 48) (x1 : Int32).toNatClampNeg)]) H.1 rfl ?_
  replace H := H.2
  refine Ev.steps 2 (pc' := if ((M 48) (x1 : Int32).toNatClampNeg) = 1 then 10 else 34) (L' := [some (.ref 44), some (.int x1), some (.int x2)]) (st' := []) rfl ?_
  refine Ev_ite (fun hc => ?_) (fun hc => ?_)
  · replace H := H.1 hc
    refine Ev.steps 5 (pc' := 19) (L' := [some (.ref 44), some (.int x1), some (.int x2)]) (st' := [.int x1, .ref 46, .ref 40]) rfl ?_
    refine Ev.rd (i := x1) (n := 768) (pc' := 20) (L' := [some (.ref 44), some (.int x1), some (.int x2)]) (st' := [.int ((M 46) (x1 : Int32).toNatClampNeg), .ref 40]) H.1 rfl ?_
    replace H := H.2
    refine Ev.call (y := 100) (args := [.ref 40, .int ((M 46) (x1 : Int32).toNatClampNeg)]) (rest := []) (r := some (.int (F100 M ((M 46) (x1 : Int32).toNatClampNeg)))) rfl (s100 H.1) ?_
    replace H := H.2
    show Ev 3 21 23 [some (.ref 44), some (.int x1), some (.int x2)] [.int (F100 M ((M 46) (x1 : Int32).toNatClampNeg))] _ _
    refine Ev.steps 2 (pc' := if x2 ≤ (F100 M ((M 46) (x1 : Int32).toNatClampNeg)) then 34 else 27) (L' := [some (.ref 44), some (.int x1), some (.int x2)]) (st' := []) rfl ?_
    refine Ev_ite (fun hc => ?_) (fun hc => ?_)
    · replace H := H.1 hc
      subst H
      exact Ev.ret rfl
    · replace H := H.2 hc
      refine Ev.steps 4 (pc' := 33) (L' := [some (.ref 44), some (.int x1), some (.int x2)]) (st' := [.int 2, .int x1, .ref 48]) rfl ?_
      refine Ev.wr (a := 48) (g := (upd (M 48) (x1 : Int32).toNatClampNeg 2)) (i := x1) (n := 768) (pc' := 34) (L' := [some (.ref 44), some (.int x1), some (.int x2)]) (st' := []) (by decide) H.1 rfl ?_
      replace H := H.2
      subst H
      exact Ev.ret rfl
  · replace H := H.2 hc
    subst H
    exact Ev.ret rfl

-- 25 GlassWires$Glass polishAll ()I
set_option maxRecDepth 20000 in
theorem w25_0 {E : gw_N} {M : Mem} {res : Option Value × gw_H}  (H : Ev 3 25 4 [some (.ref 44), some (.int 0), some (.int 0), none, none, none] [] (hs E M) res) : Ev 3 25 0 [some (.ref 44), none, none, none, none, none] [] (hs E M) res := by
  refine Ev.steps 4 (pc' := 4) (L' := [some (.ref 44), some (.int 0), some (.int 0), none, none, none]) (st' := []) rfl ?_
  exact Ev.weak [some (.ref 44), some (.int 0), some (.int 0), none, none, none] (gw_leb_le ⟨rfl, rfl, rfl, trivial⟩) H

set_option maxRecDepth 20000 in
theorem w25_4 {E : gw_N} {M : Mem} {res : Option Value × gw_H} {x1 : Int32} {x2 : Int32} (H : (((F40 M) ≤ x2 → res = (some (.int x1), hs E M)) ∧ (¬ (F40 M) ≤ x2 → (∃ (r1 : Int32), Rn 13 [.ref 44, .int x2] (hs E M) (some (.int r1)) (hs E M) ∧ (P103 M ∧ Ev 3 25 32 [some (.ref 44), some (.int x1), some (.int x2), some (.int (r1 - (F103 M))), some (.int 0), none] [] (hs E M) res))))) : Ev 3 25 4 [some (.ref 44), some (.int x1), some (.int x2), none, none, none] [] (hs E M) res := by
  refine Ev.steps 3 (pc' := 9) (L' := [some (.ref 44), some (.int x1), some (.int x2), none, none, none]) (st' := [.ref 9, .int x2]) rfl ?_
  refine Ev.call (y := 40) (args := [.ref 9]) (rest := [.int x2]) (r := some (.int (F40 M))) rfl (s40) ?_
  show Ev 3 25 12 [some (.ref 44), some (.int x1), some (.int x2), none, none, none] [.int (F40 M), .int x2] _ _
  refine Ev.steps 1 (pc' := if (F40 M) ≤ x2 then 73 else 15) (L' := [some (.ref 44), some (.int x1), some (.int x2), none, none, none]) (st' := []) rfl ?_
  refine Ev_ite (fun hc => ?_) (fun hc => ?_)
  · replace H := H.1 hc
    refine Ev.steps 1 (pc' := 74) (L' := [some (.ref 44), some (.int x1), some (.int x2), none, none, none]) (st' := [.int x1]) rfl ?_
    subst H
    exact Ev.ret rfl
  · replace H := H.2 hc
    refine Ev.steps 2 (pc' := 17) (L' := [some (.ref 44), some (.int x1), some (.int x2), none, none, none]) (st' := [.int x2, .ref 44]) rfl ?_
    obtain ⟨r1, hr1, H⟩ := H
    refine Ev.call (y := 13) (args := [.ref 44, .int x2]) (rest := []) (r := (some (.int r1))) rfl hr1 ?_
    show Ev 3 25 20 [some (.ref 44), some (.int x1), some (.int x2), none, none, none] [.int r1] _ _
    refine Ev.steps 2 (pc' := 24) (L' := [some (.ref 44), some (.int x1), some (.int x2), none, none, none]) (st' := [.ref 40, .int r1]) rfl ?_
    refine Ev.call (y := 103) (args := [.ref 40]) (rest := [.int r1]) (r := some (.int (F103 M))) rfl (s103 H.1) ?_
    replace H := H.2
    show Ev 3 25 27 [some (.ref 44), some (.int x1), some (.int x2), none, none, none] [.int (F103 M), .int r1] _ _
    refine Ev.steps 4 (pc' := 32) (L' := [some (.ref 44), some (.int x1), some (.int x2), some (.int (r1 - (F103 M))), some (.int 0), none]) (st' := []) rfl ?_
    exact Ev.weak [some (.ref 44), some (.int x1), some (.int x2), some (.int (r1 - (F103 M))), some (.int 0), none] (gw_leb_le ⟨rfl, rfl, rfl, rfl, rfl, trivial⟩) H

set_option maxRecDepth 20000 in
theorem w25_32 {E : gw_N} {M : Mem} {res : Option Value × gw_H} {x1 : Int32} {x2 : Int32} {x3 : Int32} {x4 : Int32} (H : ((x3 ≤ 0 → Ev 3 25 4 [some (.ref 44), some (.int x1), some (.int (x2 + 1)), none, none, none] [] (hs E M) res) ∧ (¬ x3 ≤ 0 → ((12 ≤ x4 → Ev 3 25 4 [some (.ref 44), some (.int x1), some (.int (x2 + 1)), none, none, none] [] (hs E M) res) ∧ (¬ 12 ≤ x4 → (∃ (r1 : Int32) (M1 : Mem), Rn 24 [.ref 44, .int x2, .int x3] (hs E M) (some (.int r1)) (hs E M1) ∧ Ev 3 25 32 [some (.ref 44), some (.int (x1 + r1)), some (.int x2), some (.int (x3 - r1)), some (.int (x4 + 1)), none] [] (hs E M1) res)))))) : Ev 3 25 32 [some (.ref 44), some (.int x1), some (.int x2), some (.int x3), some (.int x4), none] [] (hs E M) res := by
  refine Ev.steps 2 (pc' := if x3 ≤ 0 then 67 else 36) (L' := [some (.ref 44), some (.int x1), some (.int x2), some (.int x3), some (.int x4), none]) (st' := []) rfl ?_
  refine Ev_ite (fun hc => ?_) (fun hc => ?_)
  · replace H := H.1 hc
    refine Ev.steps 2 (pc' := 4) (L' := [some (.ref 44), some (.int x1), some (.int (x2 + 1)), some (.int x3), some (.int x4), none]) (st' := []) rfl ?_
    exact Ev.weak [some (.ref 44), some (.int x1), some (.int (x2 + 1)), none, none, none] (gw_leb_le ⟨rfl, rfl, rfl, trivial⟩) H
  · replace H := H.2 hc
    refine Ev.steps 3 (pc' := if 12 ≤ x4 then 67 else 43) (L' := [some (.ref 44), some (.int x1), some (.int x2), some (.int x3), some (.int x4), none]) (st' := []) rfl ?_
    refine Ev_ite (fun hc => ?_) (fun hc => ?_)
    · replace H := H.1 hc
      refine Ev.steps 2 (pc' := 4) (L' := [some (.ref 44), some (.int x1), some (.int (x2 + 1)), some (.int x3), some (.int x4), none]) (st' := []) rfl ?_
      exact Ev.weak [some (.ref 44), some (.int x1), some (.int (x2 + 1)), none, none, none] (gw_leb_le ⟨rfl, rfl, rfl, trivial⟩) H
    · replace H := H.2 hc
      refine Ev.steps 3 (pc' := 46) (L' := [some (.ref 44), some (.int x1), some (.int x2), some (.int x3), some (.int x4), none]) (st' := [.int x3, .int x2, .ref 44]) rfl ?_
      obtain ⟨r1, M1, hr1, H⟩ := H
      refine Ev.call (y := 24) (args := [.ref 44, .int x2, .int x3]) (rest := []) (r := (some (.int r1))) rfl hr1 ?_
      show Ev 3 25 49 [some (.ref 44), some (.int x1), some (.int x2), some (.int x3), some (.int x4), none] [.int r1] _ _
      refine Ev.steps 11 (pc' := 32) (L' := [some (.ref 44), some (.int (x1 + r1)), some (.int x2), some (.int (x3 - r1)), some (.int (x4 + 1)), some (.int r1)]) (st' := []) rfl ?_
      exact Ev.weak [some (.ref 44), some (.int (x1 + r1)), some (.int x2), some (.int (x3 - r1)), some (.int (x4 + 1)), none] (gw_leb_le ⟨rfl, rfl, rfl, rfl, rfl, trivial⟩) H

-- 33 GlassWires$Glass bearableHeat (I)I
set_option maxRecDepth 20000 in
theorem w33_0 {E : gw_N} {M : Mem} {res : Option Value × gw_H} {x1 : Int32} (H : Ev 3 33 6 [some (.ref 44), some (.int x1), some (.int 999), some (.int 0), none] [] (hs E M) res) : Ev 3 33 0 [some (.ref 44), some (.int x1), none, none, none] [] (hs E M) res := by
  refine Ev.steps 4 (pc' := 6) (L' := [some (.ref 44), some (.int x1), some (.int 999), some (.int 0), none]) (st' := []) rfl ?_
  exact Ev.weak [some (.ref 44), some (.int x1), some (.int 999), some (.int 0), none] (gw_leb_le ⟨rfl, rfl, rfl, rfl, trivial⟩) H

set_option maxRecDepth 20000 in
theorem w33_6 {E : gw_N} {M : Mem} {res : Option Value × gw_H} {x1 : Int32} {x2 : Int32} {x3 : Int32} (H : (((F40 M) ≤ x3 → res = (some (.int x2), hs E M)) ∧ (¬ (F40 M) ≤ x3 → (P15 M x3 ∧ (P4 M x3 ∧ (((F4 M x3) = x1 → (((F15 M x3) = (-1) → Ev 3 33 6 [some (.ref 44), some (.int x1), some (.int x2), some (.int (x3 + 1)), none] [] (hs E M) res) ∧ (¬ (F15 M x3) = (-1) → (inb (F15 M x3) 768 ∧ ((((M 48) ((F15 M x3) : Int32).toNatClampNeg) = 1 → (inb (F15 M x3) 768 ∧ (P100 M ((M 46) ((F15 M x3) : Int32).toNatClampNeg) ∧ Ev 3 33 6 [some (.ref 44), some (.int x1), some (.int (F312 M x2 (F100 M ((M 46) ((F15 M x3) : Int32).toNatClampNeg)))), some (.int (x3 + 1)), none] [] (hs E M) res))) ∧ (¬ ((M 48) ((F15 M x3) : Int32).toNatClampNeg) = 1 → Ev 3 33 6 [some (.ref 44), some (.int x1), some (.int x2), some (.int (x3 + 1)), none] [] (hs E M) res)))))) ∧ (¬ (F4 M x3) = x1 → Ev 3 33 6 [some (.ref 44), some (.int x1), some (.int x2), some (.int (x3 + 1)), none] [] (hs E M) res))))))) : Ev 3 33 6 [some (.ref 44), some (.int x1), some (.int x2), some (.int x3), none] [] (hs E M) res := by
  refine Ev.steps 3 (pc' := 11) (L' := [some (.ref 44), some (.int x1), some (.int x2), some (.int x3), none]) (st' := [.ref 9, .int x3]) rfl ?_
  refine Ev.call (y := 40) (args := [.ref 9]) (rest := [.int x3]) (r := some (.int (F40 M))) rfl (s40) ?_
  show Ev 3 33 14 [some (.ref 44), some (.int x1), some (.int x2), some (.int x3), none] [.int (F40 M), .int x3] _ _
  refine Ev.steps 1 (pc' := if (F40 M) ≤ x3 then 78 else 17) (L' := [some (.ref 44), some (.int x1), some (.int x2), some (.int x3), none]) (st' := []) rfl ?_
  refine Ev_ite (fun hc => ?_) (fun hc => ?_)
  · replace H := H.1 hc
    refine Ev.steps 1 (pc' := 79) (L' := [some (.ref 44), some (.int x1), some (.int x2), some (.int x3), none]) (st' := [.int x2]) rfl ?_
    subst H
    exact Ev.ret rfl
  · replace H := H.2 hc
    refine Ev.steps 2 (pc' := 19) (L' := [some (.ref 44), some (.int x1), some (.int x2), some (.int x3), none]) (st' := [.int x3, .ref 44]) rfl ?_
    refine Ev.call (y := 15) (args := [.ref 44, .int x3]) (rest := []) (r := some (.int (F15 M x3))) rfl (s15 H.1) ?_
    replace H := H.2
    show Ev 3 33 22 [some (.ref 44), some (.int x1), some (.int x2), some (.int x3), none] [.int (F15 M x3)] _ _
    refine Ev.steps 4 (pc' := 29) (L' := [some (.ref 44), some (.int x1), some (.int x2), some (.int x3), some (.int (F15 M x3))]) (st' := [.int x3, .ref 32]) rfl ?_
    refine Ev.call (y := 4) (args := [.ref 32, .int x3]) (rest := []) (r := some (.int (F4 M x3))) rfl (s4 H.1) ?_
    replace H := H.2
    show Ev 3 33 32 [some (.ref 44), some (.int x1), some (.int x2), some (.int x3), some (.int (F15 M x3))] [.int (F4 M x3)] _ _
    refine Ev.steps 2 (pc' := if (F4 M x3) = x1 then 36 else 72) (L' := [some (.ref 44), some (.int x1), some (.int x2), some (.int x3), some (.int (F15 M x3))]) (st' := []) rfl ?_
    refine Ev_ite (fun hc => ?_) (fun hc => ?_)
    · replace H := H.1 hc
      refine Ev.steps 3 (pc' := if (F15 M x3) = (-1) then 72 else 42) (L' := [some (.ref 44), some (.int x1), some (.int x2), some (.int x3), some (.int (F15 M x3))]) (st' := []) rfl ?_
      refine Ev_ite (fun hc => ?_) (fun hc => ?_)
      · replace H := H.1 hc
        refine Ev.steps 2 (pc' := 6) (L' := [some (.ref 44), some (.int x1), some (.int x2), some (.int (x3 + 1)), some (.int (F15 M x3))]) (st' := []) rfl ?_
        exact Ev.weak [some (.ref 44), some (.int x1), some (.int x2), some (.int (x3 + 1)), none] (gw_leb_le ⟨rfl, rfl, rfl, rfl, trivial⟩) H
      · replace H := H.2 hc
        refine Ev.steps 3 (pc' := 48) (L' := [some (.ref 44), some (.int x1), some (.int x2), some (.int x3), some (.int (F15 M x3))]) (st' := [.int (F15 M x3), .ref 48]) rfl ?_
        refine Ev.rd (i := (F15 M x3)) (n := 768) (pc' := 49) (L' := [some (.ref 44), some (.int x1), some (.int x2), some (.int x3), some (.int (F15 M x3))]) (st' := [.int ((M 48) ((F15 M x3) : Int32).toNatClampNeg)]) H.1 rfl ?_
        replace H := H.2
        refine Ev.steps 2 (pc' := if ((M 48) ((F15 M x3) : Int32).toNatClampNeg) = 1 then 53 else 72) (L' := [some (.ref 44), some (.int x1), some (.int x2), some (.int x3), some (.int (F15 M x3))]) (st' := []) rfl ?_
        refine Ev_ite (fun hc => ?_) (fun hc => ?_)
        · replace H := H.1 hc
          refine Ev.steps 6 (pc' := 64) (L' := [some (.ref 44), some (.int x1), some (.int x2), some (.int x3), some (.int (F15 M x3))]) (st' := [.int (F15 M x3), .ref 46, .ref 40, .int x2]) rfl ?_
          refine Ev.rd (i := (F15 M x3)) (n := 768) (pc' := 65) (L' := [some (.ref 44), some (.int x1), some (.int x2), some (.int x3), some (.int (F15 M x3))]) (st' := [.int ((M 46) ((F15 M x3) : Int32).toNatClampNeg), .ref 40, .int x2]) H.1 rfl ?_
          replace H := H.2
          refine Ev.call (y := 100) (args := [.ref 40, .int ((M 46) ((F15 M x3) : Int32).toNatClampNeg)]) (rest := [.int x2]) (r := some (.int (F100 M ((M 46) ((F15 M x3) : Int32).toNatClampNeg)))) rfl (s100 H.1) ?_
          replace H := H.2
          show Ev 3 33 68 [some (.ref 44), some (.int x1), some (.int x2), some (.int x3), some (.int (F15 M x3))] [.int (F100 M ((M 46) ((F15 M x3) : Int32).toNatClampNeg)), .int x2] _ _
          refine Ev.call (y := 312) (args := [.int x2, .int (F100 M ((M 46) ((F15 M x3) : Int32).toNatClampNeg))]) (rest := []) (r := some (.int (F312 M x2 (F100 M ((M 46) ((F15 M x3) : Int32).toNatClampNeg))))) rfl (s312) ?_
          show Ev 3 33 71 [some (.ref 44), some (.int x1), some (.int x2), some (.int x3), some (.int (F15 M x3))] [.int (F312 M x2 (F100 M ((M 46) ((F15 M x3) : Int32).toNatClampNeg)))] _ _
          refine Ev.steps 3 (pc' := 6) (L' := [some (.ref 44), some (.int x1), some (.int (F312 M x2 (F100 M ((M 46) ((F15 M x3) : Int32).toNatClampNeg)))), some (.int (x3 + 1)), some (.int (F15 M x3))]) (st' := []) rfl ?_
          exact Ev.weak [some (.ref 44), some (.int x1), some (.int (F312 M x2 (F100 M ((M 46) ((F15 M x3) : Int32).toNatClampNeg)))), some (.int (x3 + 1)), none] (gw_leb_le ⟨rfl, rfl, rfl, rfl, trivial⟩) H
        · replace H := H.2 hc
          refine Ev.steps 2 (pc' := 6) (L' := [some (.ref 44), some (.int x1), some (.int x2), some (.int (x3 + 1)), some (.int (F15 M x3))]) (st' := []) rfl ?_
          exact Ev.weak [some (.ref 44), some (.int x1), some (.int x2), some (.int (x3 + 1)), none] (gw_leb_le ⟨rfl, rfl, rfl, rfl, trivial⟩) H
    · replace H := H.2 hc
      refine Ev.steps 2 (pc' := 6) (L' := [some (.ref 44), some (.int x1), some (.int x2), some (.int (x3 + 1)), some (.int (F15 M x3))]) (st' := []) rfl ?_
      exact Ev.weak [some (.ref 44), some (.int x1), some (.int x2), some (.int (x3 + 1)), none] (gw_leb_le ⟨rfl, rfl, rfl, rfl, trivial⟩) H

-- 47 GlassWires$Grid between (II)I
set_option maxRecDepth 20000 in
theorem w47_0 {E : gw_N} {M : Mem} {res : Option Value × gw_H} {x1 : Int32} {x2 : Int32} (H : (inb x1 64 ∧ ((x2 = 0 → (inb x1 64 ∧ ((x2 = 1 → ((x2 = 0 → res = (some (.int (F51 M (((M 10) (x1 : Int32).toNatClampNeg) + 1) (((M 11) (x1 : Int32).toNatClampNeg) + 1) 1)), hs E M)) ∧ (¬ x2 = 0 → ((x2 = 2 → res = (some (.int (F51 M (((M 10) (x1 : Int32).toNatClampNeg) + 1) (((M 11) (x1 : Int32).toNatClampNeg) + 1) 1)), hs E M)) ∧ (¬ x2 = 2 → res = (some (.int (F51 M (((M 10) (x1 : Int32).toNatClampNeg) + 1) (((M 11) (x1 : Int32).toNatClampNeg) + 1) 0)), hs E M)))))) ∧ (¬ x2 = 1 → ((x2 = 0 → res = (some (.int (F51 M (((M 10) (x1 : Int32).toNatClampNeg) + 1) (((M 11) (x1 : Int32).toNatClampNeg) + 0) 1)), hs E M)) ∧ (¬ x2 = 0 → ((x2 = 2 → res = (some (.int (F51 M (((M 10) (x1 : Int32).toNatClampNeg) + 1) (((M 11) (x1 : Int32).toNatClampNeg) + 0) 1)), hs E M)) ∧ (¬ x2 = 2 → res = (some (.int (F51 M (((M 10) (x1 : Int32).toNatClampNeg) + 1) (((M 11) (x1 : Int32).toNatClampNeg) + 0) 0)), hs E M))))))))) ∧ (¬ x2 = 0 → (inb x1 64 ∧ ((x2 = 1 → ((x2 = 0 → res = (some (.int (F51 M (((M 10) (x1 : Int32).toNatClampNeg) + 0) (((M 11) (x1 : Int32).toNatClampNeg) + 1) 1)), hs E M)) ∧ (¬ x2 = 0 → ((x2 = 2 → res = (some (.int (F51 M (((M 10) (x1 : Int32).toNatClampNeg) + 0) (((M 11) (x1 : Int32).toNatClampNeg) + 1) 1)), hs E M)) ∧ (¬ x2 = 2 → res = (some (.int (F51 M (((M 10) (x1 : Int32).toNatClampNeg) + 0) (((M 11) (x1 : Int32).toNatClampNeg) + 1) 0)), hs E M)))))) ∧ (¬ x2 = 1 → ((x2 = 0 → res = (some (.int (F51 M (((M 10) (x1 : Int32).toNatClampNeg) + 0) (((M 11) (x1 : Int32).toNatClampNeg) + 0) 1)), hs E M)) ∧ (¬ x2 = 0 → ((x2 = 2 → res = (some (.int (F51 M (((M 10) (x1 : Int32).toNatClampNeg) + 0) (((M 11) (x1 : Int32).toNatClampNeg) + 0) 1)), hs E M)) ∧ (¬ x2 = 2 → res = (some (.int (F51 M (((M 10) (x1 : Int32).toNatClampNeg) + 0) (((M 11) (x1 : Int32).toNatClampNeg) + 0) 0)), hs E M)))))))))))) : Ev 3 47 0 [some (.ref 9), some (.int x1), some (.int x2), none, none] [] (hs E M) res := by
  refine Ev.steps 3 (pc' := 5) (L' := [some (.ref 9), some (.int x1), some (.int x2), none, none]) (st' := [.int x1, .ref 10]) rfl ?_
  refine Ev.rd (i := x1) (n := 64) (pc' := 6) (L' := [some (.ref 9), some (.int x1), some (.int x2), none, none]) (st' := [.int ((M 10) (x1 : Int32).toNatClampNeg)]) H.1 rfl ?_
  replace H := H.2
  refine Ev.steps 2 (pc' := if x2 = 0 then 10 else 14) (L' := [some (.ref 9), some (.int x1), some (.int x2), none, none]) (st' := [.int ((M 10) (x1 : Int32).toNatClampNeg)]) rfl ?_
  refine Ev_ite (fun hc => ?_) (fun hc => ?_)
  · replace H := H.1 hc
    refine Ev.steps 7 (pc' := 22) (L' := [some (.ref 9), some (.int x1), some (.int x2), some (.int (((M 10) (x1 : Int32).toNatClampNeg) + 1)), none]) (st' := [.int x1, .ref 11]) rfl ?_
    refine Ev.rd (i := x1) (n := 64) (pc' := 23) (L' := [some (.ref 9), some (.int x1), some (.int x2), some (.int (((M 10) (x1 : Int32).toNatClampNeg) + 1)), none]) (st' := [.int ((M 11) (x1 : Int32).toNatClampNeg)]) H.1 rfl ?_
    replace H := H.2
    refine Ev.steps 3 (pc' := if x2 = 1 then 28 else 32) (L' := [some (.ref 9), some (.int x1), some (.int x2), some (.int (((M 10) (x1 : Int32).toNatClampNeg) + 1)), none]) (st' := [.int ((M 11) (x1 : Int32).toNatClampNeg)]) rfl ?_
    refine Ev_ite (fun hc => ?_) (fun hc => ?_)
    · replace H := H.1 hc
      refine Ev.steps 8 (pc' := if x2 = 0 then 48 else 43) (L' := [some (.ref 9), some (.int x1), some (.int x2), some (.int (((M 10) (x1 : Int32).toNatClampNeg) + 1)), some (.int (((M 11) (x1 : Int32).toNatClampNeg) + 1))]) (st' := [.int (((M 11) (x1 : Int32).toNatClampNeg) + 1), .int (((M 10) (x1 : Int32).toNatClampNeg) + 1)]) rfl ?_
      refine Ev_ite (fun hc => ?_) (fun hc => ?_)
      · replace H := H.1 hc
        refine Ev.steps 2 (pc' := 53) (L' := [some (.ref 9), some (.int x1), some (.int x2), some (.int (((M 10) (x1 : Int32).toNatClampNeg) + 1)), some (.int (((M 11) (x1 : Int32).toNatClampNeg) + 1))]) (st' := [.int 1, .int (((M 11) (x1 : Int32).toNatClampNeg) + 1), .int (((M 10) (x1 : Int32).toNatClampNeg) + 1)]) rfl ?_
        refine Ev.call (y := 51) (args := [.int (((M 10) (x1 : Int32).toNatClampNeg) + 1), .int (((M 11) (x1 : Int32).toNatClampNeg) + 1), .int 1]) (rest := []) (r := some (.int (F51 M (((M 10) (x1 : Int32).toNatClampNeg) + 1) (((M 11) (x1 : Int32).toNatClampNeg) + 1) 1))) rfl (s51) ?_
        show Ev 3 47 56 [some (.ref 9), some (.int x1), some (.int x2), some (.int (((M 10) (x1 : Int32).toNatClampNeg) + 1)), some (.int (((M 11) (x1 : Int32).toNatClampNeg) + 1))] [.int (F51 M (((M 10) (x1 : Int32).toNatClampNeg) + 1) (((M 11) (x1 : Int32).toNatClampNeg) + 1) 1)] _ _
        subst H
        exact Ev.ret rfl
      · replace H := H.2 hc
        refine Ev.steps 3 (pc' := if x2 = 2 then 48 else 52) (L' := [some (.ref 9), some (.int x1), some (.int x2), some (.int (((M 10) (x1 : Int32).toNatClampNeg) + 1)), some (.int (((M 11) (x1 : Int32).toNatClampNeg) + 1))]) (st' := [.int (((M 11) (x1 : Int32).toNatClampNeg) + 1), .int (((M 10) (x1 : Int32).toNatClampNeg) + 1)]) rfl ?_
        refine Ev_ite (fun hc => ?_) (fun hc => ?_)
        · replace H := H.1 hc
          refine Ev.steps 2 (pc' := 53) (L' := [some (.ref 9), some (.int x1), some (.int x2), some (.int (((M 10) (x1 : Int32).toNatClampNeg) + 1)), some (.int (((M 11) (x1 : Int32).toNatClampNeg) + 1))]) (st' := [.int 1, .int (((M 11) (x1 : Int32).toNatClampNeg) + 1), .int (((M 10) (x1 : Int32).toNatClampNeg) + 1)]) rfl ?_
          refine Ev.call (y := 51) (args := [.int (((M 10) (x1 : Int32).toNatClampNeg) + 1), .int (((M 11) (x1 : Int32).toNatClampNeg) + 1), .int 1]) (rest := []) (r := some (.int (F51 M (((M 10) (x1 : Int32).toNatClampNeg) + 1) (((M 11) (x1 : Int32).toNatClampNeg) + 1) 1))) rfl (s51) ?_
          show Ev 3 47 56 [some (.ref 9), some (.int x1), some (.int x2), some (.int (((M 10) (x1 : Int32).toNatClampNeg) + 1)), some (.int (((M 11) (x1 : Int32).toNatClampNeg) + 1))] [.int (F51 M (((M 10) (x1 : Int32).toNatClampNeg) + 1) (((M 11) (x1 : Int32).toNatClampNeg) + 1) 1)] _ _
          subst H
          exact Ev.ret rfl
        · replace H := H.2 hc
          refine Ev.steps 1 (pc' := 53) (L' := [some (.ref 9), some (.int x1), some (.int x2), some (.int (((M 10) (x1 : Int32).toNatClampNeg) + 1)), some (.int (((M 11) (x1 : Int32).toNatClampNeg) + 1))]) (st' := [.int 0, .int (((M 11) (x1 : Int32).toNatClampNeg) + 1), .int (((M 10) (x1 : Int32).toNatClampNeg) + 1)]) rfl ?_
          refine Ev.call (y := 51) (args := [.int (((M 10) (x1 : Int32).toNatClampNeg) + 1), .int (((M 11) (x1 : Int32).toNatClampNeg) + 1), .int 0]) (rest := []) (r := some (.int (F51 M (((M 10) (x1 : Int32).toNatClampNeg) + 1) (((M 11) (x1 : Int32).toNatClampNeg) + 1) 0))) rfl (s51) ?_
          show Ev 3 47 56 [some (.ref 9), some (.int x1), some (.int x2), some (.int (((M 10) (x1 : Int32).toNatClampNeg) + 1)), some (.int (((M 11) (x1 : Int32).toNatClampNeg) + 1))] [.int (F51 M (((M 10) (x1 : Int32).toNatClampNeg) + 1) (((M 11) (x1 : Int32).toNatClampNeg) + 1) 0)] _ _
          subst H
          exact Ev.ret rfl
    · replace H := H.2 hc
      refine Ev.steps 7 (pc' := if x2 = 0 then 48 else 43) (L' := [some (.ref 9), some (.int x1), some (.int x2), some (.int (((M 10) (x1 : Int32).toNatClampNeg) + 1)), some (.int (((M 11) (x1 : Int32).toNatClampNeg) + 0))]) (st' := [.int (((M 11) (x1 : Int32).toNatClampNeg) + 0), .int (((M 10) (x1 : Int32).toNatClampNeg) + 1)]) rfl ?_
      refine Ev_ite (fun hc => ?_) (fun hc => ?_)
      · replace H := H.1 hc
        refine Ev.steps 2 (pc' := 53) (L' := [some (.ref 9), some (.int x1), some (.int x2), some (.int (((M 10) (x1 : Int32).toNatClampNeg) + 1)), some (.int (((M 11) (x1 : Int32).toNatClampNeg) + 0))]) (st' := [.int 1, .int (((M 11) (x1 : Int32).toNatClampNeg) + 0), .int (((M 10) (x1 : Int32).toNatClampNeg) + 1)]) rfl ?_
        refine Ev.call (y := 51) (args := [.int (((M 10) (x1 : Int32).toNatClampNeg) + 1), .int (((M 11) (x1 : Int32).toNatClampNeg) + 0), .int 1]) (rest := []) (r := some (.int (F51 M (((M 10) (x1 : Int32).toNatClampNeg) + 1) (((M 11) (x1 : Int32).toNatClampNeg) + 0) 1))) rfl (s51) ?_
        show Ev 3 47 56 [some (.ref 9), some (.int x1), some (.int x2), some (.int (((M 10) (x1 : Int32).toNatClampNeg) + 1)), some (.int (((M 11) (x1 : Int32).toNatClampNeg) + 0))] [.int (F51 M (((M 10) (x1 : Int32).toNatClampNeg) + 1) (((M 11) (x1 : Int32).toNatClampNeg) + 0) 1)] _ _
        subst H
        exact Ev.ret rfl
      · replace H := H.2 hc
        refine Ev.steps 3 (pc' := if x2 = 2 then 48 else 52) (L' := [some (.ref 9), some (.int x1), some (.int x2), some (.int (((M 10) (x1 : Int32).toNatClampNeg) + 1)), some (.int (((M 11) (x1 : Int32).toNatClampNeg) + 0))]) (st' := [.int (((M 11) (x1 : Int32).toNatClampNeg) + 0), .int (((M 10) (x1 : Int32).toNatClampNeg) + 1)]) rfl ?_
        refine Ev_ite (fun hc => ?_) (fun hc => ?_)
        · replace H := H.1 hc
          refine Ev.steps 2 (pc' := 53) (L' := [some (.ref 9), some (.int x1), some (.int x2), some (.int (((M 10) (x1 : Int32).toNatClampNeg) + 1)), some (.int (((M 11) (x1 : Int32).toNatClampNeg) + 0))]) (st' := [.int 1, .int (((M 11) (x1 : Int32).toNatClampNeg) + 0), .int (((M 10) (x1 : Int32).toNatClampNeg) + 1)]) rfl ?_
          refine Ev.call (y := 51) (args := [.int (((M 10) (x1 : Int32).toNatClampNeg) + 1), .int (((M 11) (x1 : Int32).toNatClampNeg) + 0), .int 1]) (rest := []) (r := some (.int (F51 M (((M 10) (x1 : Int32).toNatClampNeg) + 1) (((M 11) (x1 : Int32).toNatClampNeg) + 0) 1))) rfl (s51) ?_
          show Ev 3 47 56 [some (.ref 9), some (.int x1), some (.int x2), some (.int (((M 10) (x1 : Int32).toNatClampNeg) + 1)), some (.int (((M 11) (x1 : Int32).toNatClampNeg) + 0))] [.int (F51 M (((M 10) (x1 : Int32).toNatClampNeg) + 1) (((M 11) (x1 : Int32).toNatClampNeg) + 0) 1)] _ _
          subst H
          exact Ev.ret rfl
        · replace H := H.2 hc
          refine Ev.steps 1 (pc' := 53) (L' := [some (.ref 9), some (.int x1), some (.int x2), some (.int (((M 10) (x1 : Int32).toNatClampNeg) + 1)), some (.int (((M 11) (x1 : Int32).toNatClampNeg) + 0))]) (st' := [.int 0, .int (((M 11) (x1 : Int32).toNatClampNeg) + 0), .int (((M 10) (x1 : Int32).toNatClampNeg) + 1)]) rfl ?_
          refine Ev.call (y := 51) (args := [.int (((M 10) (x1 : Int32).toNatClampNeg) + 1), .int (((M 11) (x1 : Int32).toNatClampNeg) + 0), .int 0]) (rest := []) (r := some (.int (F51 M (((M 10) (x1 : Int32).toNatClampNeg) + 1) (((M 11) (x1 : Int32).toNatClampNeg) + 0) 0))) rfl (s51) ?_
          show Ev 3 47 56 [some (.ref 9), some (.int x1), some (.int x2), some (.int (((M 10) (x1 : Int32).toNatClampNeg) + 1)), some (.int (((M 11) (x1 : Int32).toNatClampNeg) + 0))] [.int (F51 M (((M 10) (x1 : Int32).toNatClampNeg) + 1) (((M 11) (x1 : Int32).toNatClampNeg) + 0) 0)] _ _
          subst H
          exact Ev.ret rfl
  · replace H := H.2 hc
    refine Ev.steps 6 (pc' := 22) (L' := [some (.ref 9), some (.int x1), some (.int x2), some (.int (((M 10) (x1 : Int32).toNatClampNeg) + 0)), none]) (st' := [.int x1, .ref 11]) rfl ?_
    refine Ev.rd (i := x1) (n := 64) (pc' := 23) (L' := [some (.ref 9), some (.int x1), some (.int x2), some (.int (((M 10) (x1 : Int32).toNatClampNeg) + 0)), none]) (st' := [.int ((M 11) (x1 : Int32).toNatClampNeg)]) H.1 rfl ?_
    replace H := H.2
    refine Ev.steps 3 (pc' := if x2 = 1 then 28 else 32) (L' := [some (.ref 9), some (.int x1), some (.int x2), some (.int (((M 10) (x1 : Int32).toNatClampNeg) + 0)), none]) (st' := [.int ((M 11) (x1 : Int32).toNatClampNeg)]) rfl ?_
    refine Ev_ite (fun hc => ?_) (fun hc => ?_)
    · replace H := H.1 hc
      refine Ev.steps 8 (pc' := if x2 = 0 then 48 else 43) (L' := [some (.ref 9), some (.int x1), some (.int x2), some (.int (((M 10) (x1 : Int32).toNatClampNeg) + 0)), some (.int (((M 11) (x1 : Int32).toNatClampNeg) + 1))]) (st' := [.int (((M 11) (x1 : Int32).toNatClampNeg) + 1), .int (((M 10) (x1 : Int32).toNatClampNeg) + 0)]) rfl ?_
      refine Ev_ite (fun hc => ?_) (fun hc => ?_)
      · replace H := H.1 hc
        refine Ev.steps 2 (pc' := 53) (L' := [some (.ref 9), some (.int x1), some (.int x2), some (.int (((M 10) (x1 : Int32).toNatClampNeg) + 0)), some (.int (((M 11) (x1 : Int32).toNatClampNeg) + 1))]) (st' := [.int 1, .int (((M 11) (x1 : Int32).toNatClampNeg) + 1), .int (((M 10) (x1 : Int32).toNatClampNeg) + 0)]) rfl ?_
        refine Ev.call (y := 51) (args := [.int (((M 10) (x1 : Int32).toNatClampNeg) + 0), .int (((M 11) (x1 : Int32).toNatClampNeg) + 1), .int 1]) (rest := []) (r := some (.int (F51 M (((M 10) (x1 : Int32).toNatClampNeg) + 0) (((M 11) (x1 : Int32).toNatClampNeg) + 1) 1))) rfl (s51) ?_
        show Ev 3 47 56 [some (.ref 9), some (.int x1), some (.int x2), some (.int (((M 10) (x1 : Int32).toNatClampNeg) + 0)), some (.int (((M 11) (x1 : Int32).toNatClampNeg) + 1))] [.int (F51 M (((M 10) (x1 : Int32).toNatClampNeg) + 0) (((M 11) (x1 : Int32).toNatClampNeg) + 1) 1)] _ _
        subst H
        exact Ev.ret rfl
      · replace H := H.2 hc
        refine Ev.steps 3 (pc' := if x2 = 2 then 48 else 52) (L' := [some (.ref 9), some (.int x1), some (.int x2), some (.int (((M 10) (x1 : Int32).toNatClampNeg) + 0)), some (.int (((M 11) (x1 : Int32).toNatClampNeg) + 1))]) (st' := [.int (((M 11) (x1 : Int32).toNatClampNeg) + 1), .int (((M 10) (x1 : Int32).toNatClampNeg) + 0)]) rfl ?_
        refine Ev_ite (fun hc => ?_) (fun hc => ?_)
        · replace H := H.1 hc
          refine Ev.steps 2 (pc' := 53) (L' := [some (.ref 9), some (.int x1), some (.int x2), some (.int (((M 10) (x1 : Int32).toNatClampNeg) + 0)), some (.int (((M 11) (x1 : Int32).toNatClampNeg) + 1))]) (st' := [.int 1, .int (((M 11) (x1 : Int32).toNatClampNeg) + 1), .int (((M 10) (x1 : Int32).toNatClampNeg) + 0)]) rfl ?_
          refine Ev.call (y := 51) (args := [.int (((M 10) (x1 : Int32).toNatClampNeg) + 0), .int (((M 11) (x1 : Int32).toNatClampNeg) + 1), .int 1]) (rest := []) (r := some (.int (F51 M (((M 10) (x1 : Int32).toNatClampNeg) + 0) (((M 11) (x1 : Int32).toNatClampNeg) + 1) 1))) rfl (s51) ?_
          show Ev 3 47 56 [some (.ref 9), some (.int x1), some (.int x2), some (.int (((M 10) (x1 : Int32).toNatClampNeg) + 0)), some (.int (((M 11) (x1 : Int32).toNatClampNeg) + 1))] [.int (F51 M (((M 10) (x1 : Int32).toNatClampNeg) + 0) (((M 11) (x1 : Int32).toNatClampNeg) + 1) 1)] _ _
          subst H
          exact Ev.ret rfl
        · replace H := H.2 hc
          refine Ev.steps 1 (pc' := 53) (L' := [some (.ref 9), some (.int x1), some (.int x2), some (.int (((M 10) (x1 : Int32).toNatClampNeg) + 0)), some (.int (((M 11) (x1 : Int32).toNatClampNeg) + 1))]) (st' := [.int 0, .int (((M 11) (x1 : Int32).toNatClampNeg) + 1), .int (((M 10) (x1 : Int32).toNatClampNeg) + 0)]) rfl ?_
          refine Ev.call (y := 51) (args := [.int (((M 10) (x1 : Int32).toNatClampNeg) + 0), .int (((M 11) (x1 : Int32).toNatClampNeg) + 1), .int 0]) (rest := []) (r := some (.int (F51 M (((M 10) (x1 : Int32).toNatClampNeg) + 0) (((M 11) (x1 : Int32).toNatClampNeg) + 1) 0))) rfl (s51) ?_
          show Ev 3 47 56 [some (.ref 9), some (.int x1), some (.int x2), some (.int (((M 10) (x1 : Int32).toNatClampNeg) + 0)), some (.int (((M 11) (x1 : Int32).toNatClampNeg) + 1))] [.int (F51 M (((M 10) (x1 : Int32).toNatClampNeg) + 0) (((M 11) (x1 : Int32).toNatClampNeg) + 1) 0)] _ _
          subst H
          exact Ev.ret rfl
    · replace H := H.2 hc
      refine Ev.steps 7 (pc' := if x2 = 0 then 48 else 43) (L' := [some (.ref 9), some (.int x1), some (.int x2), some (.int (((M 10) (x1 : Int32).toNatClampNeg) + 0)), some (.int (((M 11) (x1 : Int32).toNatClampNeg) + 0))]) (st' := [.int (((M 11) (x1 : Int32).toNatClampNeg) + 0), .int (((M 10) (x1 : Int32).toNatClampNeg) + 0)]) rfl ?_
      refine Ev_ite (fun hc => ?_) (fun hc => ?_)
      · replace H := H.1 hc
        refine Ev.steps 2 (pc' := 53) (L' := [some (.ref 9), some (.int x1), some (.int x2), some (.int (((M 10) (x1 : Int32).toNatClampNeg) + 0)), some (.int (((M 11) (x1 : Int32).toNatClampNeg) + 0))]) (st' := [.int 1, .int (((M 11) (x1 : Int32).toNatClampNeg) + 0), .int (((M 10) (x1 : Int32).toNatClampNeg) + 0)]) rfl ?_
        refine Ev.call (y := 51) (args := [.int (((M 10) (x1 : Int32).toNatClampNeg) + 0), .int (((M 11) (x1 : Int32).toNatClampNeg) + 0), .int 1]) (rest := []) (r := some (.int (F51 M (((M 10) (x1 : Int32).toNatClampNeg) + 0) (((M 11) (x1 : Int32).toNatClampNeg) + 0) 1))) rfl (s51) ?_
        show Ev 3 47 56 [some (.ref 9), some (.int x1), some (.int x2), some (.int (((M 10) (x1 : Int32).toNatClampNeg) + 0)), some (.int (((M 11) (x1 : Int32).toNatClampNeg) + 0))] [.int (F51 M (((M 10) (x1 : Int32).toNatClampNeg) + 0) (((M 11) (x1 : Int32).toNatClampNeg) + 0) 1)] _ _
        subst H
        exact Ev.ret rfl
      · replace H := H.2 hc
        refine Ev.steps 3 (pc' := if x2 = 2 then 48 else 52) (L' := [some (.ref 9), some (.int x1), some (.int x2), some (.int (((M 10) (x1 : Int32).toNatClampNeg) + 0)), some (.int (((M 11) (x1 : Int32).toNatClampNeg) + 0))]) (st' := [.int (((M 11) (x1 : Int32).toNatClampNeg) + 0), .int (((M 10) (x1 : Int32).toNatClampNeg) + 0)]) rfl ?_
        refine Ev_ite (fun hc => ?_) (fun hc => ?_)
        · replace H := H.1 hc
          refine Ev.steps 2 (pc' := 53) (L' := [some (.ref 9), some (.int x1), some (.int x2), some (.int (((M 10) (x1 : Int32).toNatClampNeg) + 0)), some (.int (((M 11) (x1 : Int32).toNatClampNeg) + 0))]) (st' := [.int 1, .int (((M 11) (x1 : Int32).toNatClampNeg) + 0), .int (((M 10) (x1 : Int32).toNatClampNeg) + 0)]) rfl ?_
          refine Ev.call (y := 51) (args := [.int (((M 10) (x1 : Int32).toNatClampNeg) + 0), .int (((M 11) (x1 : Int32).toNatClampNeg) + 0), .int 1]) (rest := []) (r := some (.int (F51 M (((M 10) (x1 : Int32).toNatClampNeg) + 0) (((M 11) (x1 : Int32).toNatClampNeg) + 0) 1))) rfl (s51) ?_
          show Ev 3 47 56 [some (.ref 9), some (.int x1), some (.int x2), some (.int (((M 10) (x1 : Int32).toNatClampNeg) + 0)), some (.int (((M 11) (x1 : Int32).toNatClampNeg) + 0))] [.int (F51 M (((M 10) (x1 : Int32).toNatClampNeg) + 0) (((M 11) (x1 : Int32).toNatClampNeg) + 0) 1)] _ _
          subst H
          exact Ev.ret rfl
        · replace H := H.2 hc
          refine Ev.steps 1 (pc' := 53) (L' := [some (.ref 9), some (.int x1), some (.int x2), some (.int (((M 10) (x1 : Int32).toNatClampNeg) + 0)), some (.int (((M 11) (x1 : Int32).toNatClampNeg) + 0))]) (st' := [.int 0, .int (((M 11) (x1 : Int32).toNatClampNeg) + 0), .int (((M 10) (x1 : Int32).toNatClampNeg) + 0)]) rfl ?_
          refine Ev.call (y := 51) (args := [.int (((M 10) (x1 : Int32).toNatClampNeg) + 0), .int (((M 11) (x1 : Int32).toNatClampNeg) + 0), .int 0]) (rest := []) (r := some (.int (F51 M (((M 10) (x1 : Int32).toNatClampNeg) + 0) (((M 11) (x1 : Int32).toNatClampNeg) + 0) 0))) rfl (s51) ?_
          show Ev 3 47 56 [some (.ref 9), some (.int x1), some (.int x2), some (.int (((M 10) (x1 : Int32).toNatClampNeg) + 0)), some (.int (((M 11) (x1 : Int32).toNatClampNeg) + 0))] [.int (F51 M (((M 10) (x1 : Int32).toNatClampNeg) + 0) (((M 11) (x1 : Int32).toNatClampNeg) + 0) 0)] _ _
          subst H
          exact Ev.ret rfl

def F47 (M : Mem) (x1 : Int32) (x2 : Int32) : Int32 := (if x2 = 0 then (if x2 = 1 then (if x2 = 0 then (F51 M (((M 10) (x1 : Int32).toNatClampNeg) + 1) (((M 11) (x1 : Int32).toNatClampNeg) + 1) 1) else (if x2 = 2 then (F51 M (((M 10) (x1 : Int32).toNatClampNeg) + 1) (((M 11) (x1 : Int32).toNatClampNeg) + 1) 1) else (F51 M (((M 10) (x1 : Int32).toNatClampNeg) + 1) (((M 11) (x1 : Int32).toNatClampNeg) + 1) 0))) else (if x2 = 0 then (F51 M (((M 10) (x1 : Int32).toNatClampNeg) + 1) (((M 11) (x1 : Int32).toNatClampNeg) + 0) 1) else (if x2 = 2 then (F51 M (((M 10) (x1 : Int32).toNatClampNeg) + 1) (((M 11) (x1 : Int32).toNatClampNeg) + 0) 1) else (F51 M (((M 10) (x1 : Int32).toNatClampNeg) + 1) (((M 11) (x1 : Int32).toNatClampNeg) + 0) 0)))) else (if x2 = 1 then (if x2 = 0 then (F51 M (((M 10) (x1 : Int32).toNatClampNeg) + 0) (((M 11) (x1 : Int32).toNatClampNeg) + 1) 1) else (if x2 = 2 then (F51 M (((M 10) (x1 : Int32).toNatClampNeg) + 0) (((M 11) (x1 : Int32).toNatClampNeg) + 1) 1) else (F51 M (((M 10) (x1 : Int32).toNatClampNeg) + 0) (((M 11) (x1 : Int32).toNatClampNeg) + 1) 0))) else (if x2 = 0 then (F51 M (((M 10) (x1 : Int32).toNatClampNeg) + 0) (((M 11) (x1 : Int32).toNatClampNeg) + 0) 1) else (if x2 = 2 then (F51 M (((M 10) (x1 : Int32).toNatClampNeg) + 0) (((M 11) (x1 : Int32).toNatClampNeg) + 0) 1) else (F51 M (((M 10) (x1 : Int32).toNatClampNeg) + 0) (((M 11) (x1 : Int32).toNatClampNeg) + 0) 0)))))
def P47 (M : Mem) (x1 : Int32) (x2 : Int32) : Prop := (inb x1 64 ∧ ((x2 = 0 → (inb x1 64)) ∧ (¬ x2 = 0 → (inb x1 64))))
theorem s47 {E : gw_N} {M : Mem} {x1 : Int32} {x2 : Int32} (H : P47 M x1 x2) : Rn 47 [.ref 9, .int x1, .int x2] (hs E M) (some (.int (F47 M x1 x2))) (hs E M) :=
  w47_0 (⟨H.1, ⟨fun h0 => ⟨(H.2.1 h0), ⟨fun h1 => ⟨fun h2 => gw_reteq (((if_pos h0).trans (if_pos h1)).trans (if_pos h2)), fun h2 => ⟨fun h3 => gw_reteq ((((if_pos h0).trans (if_pos h1)).trans (if_neg h2)).trans (if_pos h3)), fun h3 => gw_reteq ((((if_pos h0).trans (if_pos h1)).trans (if_neg h2)).trans (if_neg h3))⟩⟩, fun h1 => ⟨fun h2 => gw_reteq (((if_pos h0).trans (if_neg h1)).trans (if_pos h2)), fun h2 => ⟨fun h3 => gw_reteq ((((if_pos h0).trans (if_neg h1)).trans (if_neg h2)).trans (if_pos h3)), fun h3 => gw_reteq ((((if_pos h0).trans (if_neg h1)).trans (if_neg h2)).trans (if_neg h3))⟩⟩⟩⟩, fun h0 => ⟨(H.2.2 h0), ⟨fun h1 => ⟨fun h2 => gw_reteq (((if_neg h0).trans (if_pos h1)).trans (if_pos h2)), fun h2 => ⟨fun h3 => gw_reteq ((((if_neg h0).trans (if_pos h1)).trans (if_neg h2)).trans (if_pos h3)), fun h3 => gw_reteq ((((if_neg h0).trans (if_pos h1)).trans (if_neg h2)).trans (if_neg h3))⟩⟩, fun h1 => ⟨fun h2 => gw_reteq (((if_neg h0).trans (if_neg h1)).trans (if_pos h2)), fun h2 => ⟨fun h3 => gw_reteq ((((if_neg h0).trans (if_neg h1)).trans (if_neg h2)).trans (if_pos h3)), fun h3 => gw_reteq ((((if_neg h0).trans (if_neg h1)).trans (if_neg h2)).trans (if_neg h3))⟩⟩⟩⟩⟩⟩)
-- 52 GlassWires$Grid edgeOfMove (III)I
set_option maxRecDepth 20000 in
theorem w52_0 {E : gw_N} {M : Mem} {res : Option Value × gw_H} {x0 : Int32} {x1 : Int32} {x2 : Int32} (H : ((x2 = 2 → res = (some (.int (F51 M (x0 - 1) x1 0)), hs E M)) ∧ (x2 = 3 → res = (some (.int (F51 M x0 (x1 - 1) 1)), hs E M)) ∧ (¬ x2 = 2 → ¬ x2 = 3 → res = (some (.int (F51 M x0 x1 x2)), hs E M)))) : Ev 3 52 0 [some (.int x0), some (.int x1), some (.int x2)] [] (hs E M) res := by
  refine Ev.steps 1 (pc' := 1) (L' := [some (.int x0), some (.int x1), some (.int x2)]) (st' := [.int x2]) rfl ?_
  by_cases hw0 : x2 = 2
  · replace H := H.1 hw0
    refine Ev.sw (p := ((1 : Nat) + Op.lookupswitch.offset [(2, 27), (3, 36)] 45 (x2 : Int32).toInt : Int).toNat) (pc' := 28) (L' := [some (.int x0), some (.int x1), some (.int x2)]) (st' := []) rfl (by rw [hw0]; decide +kernel) ?_
    refine Ev.steps 5 (pc' := 33) (L' := [some (.int x0), some (.int x1), some (.int x2)]) (st' := [.int 0, .int x1, .int (x0 - 1)]) rfl ?_
    refine Ev.call (y := 51) (args := [.int (x0 - 1), .int x1, .int 0]) (rest := []) (r := some (.int (F51 M (x0 - 1) x1 0))) rfl (s51) ?_
    show Ev 3 52 36 [some (.int x0), some (.int x1), some (.int x2)] [.int (F51 M (x0 - 1) x1 0)] _ _
    subst H
    exact Ev.ret rfl
  replace H := H.2
  by_cases hw1 : x2 = 3
  · replace H := H.1 hw1
    refine Ev.sw (p := ((1 : Nat) + Op.lookupswitch.offset [(2, 27), (3, 36)] 45 (x2 : Int32).toInt : Int).toNat) (pc' := 37) (L' := [some (.int x0), some (.int x1), some (.int x2)]) (st' := []) rfl (by rw [hw1]; decide +kernel) ?_
    refine Ev.steps 5 (pc' := 42) (L' := [some (.int x0), some (.int x1), some (.int x2)]) (st' := [.int 1, .int (x1 - 1), .int x0]) rfl ?_
    refine Ev.call (y := 51) (args := [.int x0, .int (x1 - 1), .int 1]) (rest := []) (r := some (.int (F51 M x0 (x1 - 1) 1))) rfl (s51) ?_
    show Ev 3 52 45 [some (.int x0), some (.int x1), some (.int x2)] [.int (F51 M x0 (x1 - 1) 1)] _ _
    subst H
    exact Ev.ret rfl
  replace H := H.2
  replace H := H hw0 hw1
  refine Ev.sw (p := ((1 : Nat) + Op.lookupswitch.offset [(2, 27), (3, 36)] 45 (x2 : Int32).toInt : Int).toNat) (pc' := 46) (L' := [some (.int x0), some (.int x1), some (.int x2)]) (st' := []) rfl ((by rw [lookupswitch.offset_cons, if_neg (gw_ls_ne (v := 2) (by decide +kernel) hw0), lookupswitch.offset_cons, if_neg (gw_ls_ne (v := 3) (by decide +kernel) hw1), lookupswitch.offset_nil]; decide +kernel)) ?_
  refine Ev.steps 3 (pc' := 49) (L' := [some (.int x0), some (.int x1), some (.int x2)]) (st' := [.int x2, .int x1, .int x0]) rfl ?_
  refine Ev.call (y := 51) (args := [.int x0, .int x1, .int x2]) (rest := []) (r := some (.int (F51 M x0 x1 x2))) rfl (s51) ?_
  show Ev 3 52 52 [some (.int x0), some (.int x1), some (.int x2)] [.int (F51 M x0 x1 x2)] _ _
  subst H
  exact Ev.ret rfl

def F52 (M : Mem) (x0 : Int32) (x1 : Int32) (x2 : Int32) : Int32 := (if x2 = 2 then (F51 M (x0 - 1) x1 0) else (if x2 = 3 then (F51 M x0 (x1 - 1) 1) else (F51 M x0 x1 x2)))
theorem s52 {E : gw_N} {M : Mem} {x0 : Int32} {x1 : Int32} {x2 : Int32} : Rn 52 [.int x0, .int x1, .int x2] (hs E M) (some (.int (F52 M x0 x1 x2))) (hs E M) :=
  w52_0 (⟨fun h0 => gw_reteq (if_pos h0), fun h1 => gw_reteq ((if_neg (fun k => absurd (h1.symm.trans k) (by decide))).trans (if_pos h1)), fun h0 h1 => gw_reteq ((if_neg h0).trans (if_neg h1))⟩)
-- 58 GlassWires$Net put (I)V
set_option maxRecDepth 20000 in
theorem w58_0 {E : gw_N} {M : Mem} {res : Option Value × gw_H} {x1 : Int32} (H : (P153 M x1 0 ∧ (∃ (M1 : Mem), Rn 59 [.ref 22, .int x1, .int (F153 M x1 0)] (hs E M) none (hs E M1) ∧ Ev 3 58 16 [some (.ref 22), some (.int x1), some (.int 0)] [] (hs E M1) res))) : Ev 3 58 0 [some (.ref 22), some (.int x1), none] [] (hs E M) res := by
  refine Ev.steps 6 (pc' := 8) (L' := [some (.ref 22), some (.int x1), none]) (st' := [.int 0, .int x1, .ref 14, .int x1, .ref 22]) rfl ?_
  refine Ev.call (y := 153) (args := [.ref 14, .int x1, .int 0]) (rest := [.int x1, .ref 22]) (r := some (.int (F153 M x1 0))) rfl (s153 H.1) ?_
  replace H := H.2
  show Ev 3 58 11 [some (.ref 22), some (.int x1), none] [.int (F153 M x1 0), .int x1, .ref 22] _ _
  obtain ⟨M1, hr1, H⟩ := H
  refine Ev.call (y := 59) (args := [.ref 22, .int x1, .int (F153 M x1 0)]) (rest := []) (r := none) rfl hr1 ?_
  show Ev 3 58 14 [some (.ref 22), some (.int x1), none] [] _ _
  refine Ev.steps 2 (pc' := 16) (L' := [some (.ref 22), some (.int x1), some (.int 0)]) (st' := []) rfl ?_
  exact Ev.weak [some (.ref 22), some (.int x1), some (.int 0)] (gw_leb_le ⟨rfl, rfl, rfl, trivial⟩) H

set_option maxRecDepth 20000 in
theorem w58_16 {E : gw_N} {M : Mem} {res : Option Value × gw_H} {x1 : Int32} {x2 : Int32} (H : (P149 M x1 ∧ (((F149 M x1) ≤ x2 → res = (none, hs E M)) ∧ (¬ (F149 M x1) ≤ x2 → (P153 M x1 (x2 + 1) ∧ (∃ (M1 : Mem), Rn 59 [.ref 22, .int x1, .int (F153 M x1 (x2 + 1))] (hs E M) none (hs E M1) ∧ (P154 M1 x1 x2 ∧ (∃ (M2 : Mem), Rn 60 [.ref 22, .int x1, .int (F154 M1 x1 x2)] (hs E M1) none (hs E M2) ∧ Ev 3 58 16 [some (.ref 22), some (.int x1), some (.int (x2 + 1))] [] (hs E M2) res)))))))) : Ev 3 58 16 [some (.ref 22), some (.int x1), some (.int x2)] [] (hs E M) res := by
  refine Ev.steps 4 (pc' := 22) (L' := [some (.ref 22), some (.int x1), some (.int x2)]) (st' := [.int x1, .ref 14, .int x2]) rfl ?_
  refine Ev.call (y := 149) (args := [.ref 14, .int x1]) (rest := [.int x2]) (r := some (.int (F149 M x1))) rfl (s149 H.1) ?_
  replace H := H.2
  show Ev 3 58 25 [some (.ref 22), some (.int x1), some (.int x2)] [.int (F149 M x1), .int x2] _ _
  refine Ev.steps 1 (pc' := if (F149 M x1) ≤ x2 then 64 else 28) (L' := [some (.ref 22), some (.int x1), some (.int x2)]) (st' := []) rfl ?_
  refine Ev_ite (fun hc => ?_) (fun hc => ?_)
  · replace H := H.1 hc
    subst H
    exact Ev.ret rfl
  · replace H := H.2 hc
    refine Ev.steps 8 (pc' := 38) (L' := [some (.ref 22), some (.int x1), some (.int x2)]) (st' := [.int (x2 + 1), .int x1, .ref 14, .int x1, .ref 22]) rfl ?_
    refine Ev.call (y := 153) (args := [.ref 14, .int x1, .int (x2 + 1)]) (rest := [.int x1, .ref 22]) (r := some (.int (F153 M x1 (x2 + 1)))) rfl (s153 H.1) ?_
    replace H := H.2
    show Ev 3 58 41 [some (.ref 22), some (.int x1), some (.int x2)] [.int (F153 M x1 (x2 + 1)), .int x1, .ref 22] _ _
    obtain ⟨M1, hr1, H⟩ := H
    refine Ev.call (y := 59) (args := [.ref 22, .int x1, .int (F153 M x1 (x2 + 1))]) (rest := []) (r := none) rfl hr1 ?_
    show Ev 3 58 44 [some (.ref 22), some (.int x1), some (.int x2)] [] _ _
    refine Ev.steps 6 (pc' := 52) (L' := [some (.ref 22), some (.int x1), some (.int x2)]) (st' := [.int x2, .int x1, .ref 14, .int x1, .ref 22]) rfl ?_
    refine Ev.call (y := 154) (args := [.ref 14, .int x1, .int x2]) (rest := [.int x1, .ref 22]) (r := some (.int (F154 M1 x1 x2))) rfl (s154 H.1) ?_
    replace H := H.2
    show Ev 3 58 55 [some (.ref 22), some (.int x1), some (.int x2)] [.int (F154 M1 x1 x2), .int x1, .ref 22] _ _
    obtain ⟨M2, hr2, H⟩ := H
    refine Ev.call (y := 60) (args := [.ref 22, .int x1, .int (F154 M1 x1 x2)]) (rest := []) (r := none) rfl hr2 ?_
    show Ev 3 58 58 [some (.ref 22), some (.int x1), some (.int x2)] [] _ _
    refine Ev.steps 2 (pc' := 16) (L' := [some (.ref 22), some (.int x1), some (.int (x2 + 1))]) (st' := []) rfl ?_
    exact Ev.weak [some (.ref 22), some (.int x1), some (.int (x2 + 1))] (gw_leb_le ⟨rfl, rfl, rfl, trivial⟩) H

-- 61 GlassWires$Net holdWires ()V
set_option maxRecDepth 20000 in
theorem w61_0 {E : gw_N} {M : Mem} {res : Option Value × gw_H}  (H : (∃ (M1 : Mem), Rn 313 [.ref 28, .int 0] (hs E M) none (hs E M1) ∧ (∃ (M2 : Mem), Rn 313 [.ref 29, .int 0] (hs E M1) none (hs E M2) ∧ Ev 3 61 20 [some (.ref 22), some (.int 1), some (.int 0), none] [] (hs E M2) res))) : Ev 3 61 0 [some (.ref 22), none, none, none] [] (hs E M) res := by
  refine Ev.steps 3 (pc' := 5) (L' := [some (.ref 22), none, none, none]) (st' := [.int 0, .ref 28]) rfl ?_
  obtain ⟨M1, hr1, H⟩ := H
  refine Ev.call (y := 313) (args := [.ref 28, .int 0]) (rest := []) (r := none) rfl hr1 ?_
  show Ev 3 61 8 [some (.ref 22), none, none, none] [] _ _
  refine Ev.steps 3 (pc' := 13) (L' := [some (.ref 22), none, none, none]) (st' := [.int 0, .ref 29]) rfl ?_
  obtain ⟨M2, hr2, H⟩ := H
  refine Ev.call (y := 313) (args := [.ref 29, .int 0]) (rest := []) (r := none) rfl hr2 ?_
  show Ev 3 61 16 [some (.ref 22), none, none, none] [] _ _
  refine Ev.steps 4 (pc' := 20) (L' := [some (.ref 22), some (.int 1), some (.int 0), none]) (st' := []) rfl ?_
  exact Ev.weak [some (.ref 22), some (.int 1), some (.int 0), none] (gw_leb_le ⟨rfl, rfl, rfl, trivial⟩) H

set_option maxRecDepth 20000 in
theorem w61_20 {E : gw_N} {M : Mem} {res : Option Value × gw_H} {x1 : Int32} {x2 : Int32} (H : ((x1 = 0 → res = (none, hs E M)) ∧ (¬ x1 = 0 → ((30 < x2 → res = (none, hs E M)) ∧ (¬ 30 < x2 → Ev 3 61 34 [some (.ref 22), some (.int 0), some (.int x2), some (.int 0)] [] (hs E M) res))))) : Ev 3 61 20 [some (.ref 22), some (.int x1), some (.int x2), none] [] (hs E M) res := by
  refine Ev.steps 2 (pc' := if x1 = 0 then 92 else 24) (L' := [some (.ref 22), some (.int x1), some (.int x2), none]) (st' := []) rfl ?_
  refine Ev_ite (fun hc => ?_) (fun hc => ?_)
  · replace H := H.1 hc
    subst H
    exact Ev.ret rfl
  · replace H := H.2 hc
    refine Ev.steps 3 (pc' := if 30 < x2 then 92 else 30) (L' := [some (.ref 22), some (.int x1), some (.int x2), none]) (st' := []) rfl ?_
    refine Ev_ite (fun hc => ?_) (fun hc => ?_)
    · replace H := H.1 hc
      subst H
      exact Ev.ret rfl
    · replace H := H.2 hc
      refine Ev.steps 4 (pc' := 34) (L' := [some (.ref 22), some (.int 0), some (.int x2), some (.int 0)]) (st' := []) rfl ?_
      exact Ev.weak [some (.ref 22), some (.int 0), some (.int x2), some (.int 0)] (gw_leb_le ⟨rfl, rfl, rfl, rfl, trivial⟩) H

set_option maxRecDepth 20000 in
theorem w61_34 {E : gw_N} {M : Mem} {res : Option Value × gw_H} {x1 : Int32} {x2 : Int32} {x3 : Int32} (H : (((F143 M) ≤ x3 → Ev 3 61 20 [some (.ref 22), some (.int x1), some (.int (x2 + 1)), none] [] (hs E M) res) ∧ (¬ (F143 M) ≤ x3 → (P145 M x3 ∧ (((F145 M x3) = 0 → Ev 3 61 34 [some (.ref 22), some (.int x1), some (.int x2), some (.int (x3 + 1))] [] (hs E M) res) ∧ (¬ (F145 M x3) = 0 → (inb x3 30 ∧ ((((M 28) (x3 : Int32).toNatClampNeg) = 0 → (∃ (r1 : Int32), Rn 62 [.ref 22, .int x3] (hs E M) (some (.int r1)) (hs E M) ∧ ((r1 = 0 → Ev 3 61 34 [some (.ref 22), some (.int x1), some (.int x2), some (.int (x3 + 1))] [] (hs E M) res) ∧ (¬ r1 = 0 → (∃ (M2 : Mem), Rn 63 [.ref 22, .int x3] (hs E M) none (hs E M2) ∧ Ev 3 61 34 [some (.ref 22), some (.int 1), some (.int x2), some (.int (x3 + 1))] [] (hs E M2) res))))) ∧ (¬ ((M 28) (x3 : Int32).toNatClampNeg) = 0 → Ev 3 61 34 [some (.ref 22), some (.int x1), some (.int x2), some (.int (x3 + 1))] [] (hs E M) res))))))))) : Ev 3 61 34 [some (.ref 22), some (.int x1), some (.int x2), some (.int x3)] [] (hs E M) res := by
  refine Ev.steps 3 (pc' := 39) (L' := [some (.ref 22), some (.int x1), some (.int x2), some (.int x3)]) (st' := [.ref 14, .int x3]) rfl ?_
  refine Ev.call (y := 143) (args := [.ref 14]) (rest := [.int x3]) (r := some (.int (F143 M))) rfl (s143) ?_
  show Ev 3 61 42 [some (.ref 22), some (.int x1), some (.int x2), some (.int x3)] [.int (F143 M), .int x3] _ _
  refine Ev.steps 1 (pc' := if (F143 M) ≤ x3 then 86 else 45) (L' := [some (.ref 22), some (.int x1), some (.int x2), some (.int x3)]) (st' := []) rfl ?_
  refine Ev_ite (fun hc => ?_) (fun hc => ?_)
  · replace H := H.1 hc
    refine Ev.steps 2 (pc' := 20) (L' := [some (.ref 22), some (.int x1), some (.int (x2 + 1)), some (.int x3)]) (st' := []) rfl ?_
    exact Ev.weak [some (.ref 22), some (.int x1), some (.int (x2 + 1)), none] (gw_leb_le ⟨rfl, rfl, rfl, trivial⟩) H
  · replace H := H.2 hc
    refine Ev.steps 3 (pc' := 50) (L' := [some (.ref 22), some (.int x1), some (.int x2), some (.int x3)]) (st' := [.int x3, .ref 14]) rfl ?_
    refine Ev.call (y := 145) (args := [.ref 14, .int x3]) (rest := []) (r := some (.int (F145 M x3))) rfl (s145 H.1) ?_
    replace H := H.2
    show Ev 3 61 53 [some (.ref 22), some (.int x1), some (.int x2), some (.int x3)] [.int (F145 M x3)] _ _
    refine Ev.steps 1 (pc' := if (F145 M x3) = 0 then 80 else 56) (L' := [some (.ref 22), some (.int x1), some (.int x2), some (.int x3)]) (st' := []) rfl ?_
    refine Ev_ite (fun hc => ?_) (fun hc => ?_)
    · replace H := H.1 hc
      refine Ev.steps 2 (pc' := 34) (L' := [some (.ref 22), some (.int x1), some (.int x2), some (.int (x3 + 1))]) (st' := []) rfl ?_
      exact Ev.weak [some (.ref 22), some (.int x1), some (.int x2), some (.int (x3 + 1))] (gw_leb_le ⟨rfl, rfl, rfl, rfl, trivial⟩) H
    · replace H := H.2 hc
      refine Ev.steps 3 (pc' := 61) (L' := [some (.ref 22), some (.int x1), some (.int x2), some (.int x3)]) (st' := [.int x3, .ref 28]) rfl ?_
      refine Ev.rd (i := x3) (n := 30) (pc' := 62) (L' := [some (.ref 22), some (.int x1), some (.int x2), some (.int x3)]) (st' := [.int ((M 28) (x3 : Int32).toNatClampNeg)]) H.1 rfl ?_
      replace H := H.2
      refine Ev.steps 1 (pc' := if ((M 28) (x3 : Int32).toNatClampNeg) = 0 then 65 else 80) (L' := [some (.ref 22), some (.int x1), some (.int x2), some (.int x3)]) (st' := []) rfl ?_
      refine Ev_ite (fun hc => ?_) (fun hc => ?_)
      · replace H := H.1 hc
        refine Ev.steps 2 (pc' := 67) (L' := [some (.ref 22), some (.int x1), some (.int x2), some (.int x3)]) (st' := [.int x3, .ref 22]) rfl ?_
        obtain ⟨r1, hr1, H⟩ := H
        refine Ev.call (y := 62) (args := [.ref 22, .int x3]) (rest := []) (r := (some (.int r1))) rfl hr1 ?_
        show Ev 3 61 70 [some (.ref 22), some (.int x1), some (.int x2), some (.int x3)] [.int r1] _ _
        refine Ev.steps 1 (pc' := if r1 = 0 then 80 else 73) (L' := [some (.ref 22), some (.int x1), some (.int x2), some (.int x3)]) (st' := []) rfl ?_
        refine Ev_ite (fun hc => ?_) (fun hc => ?_)
        · replace H := H.1 hc
          refine Ev.steps 2 (pc' := 34) (L' := [some (.ref 22), some (.int x1), some (.int x2), some (.int (x3 + 1))]) (st' := []) rfl ?_
          exact Ev.weak [some (.ref 22), some (.int x1), some (.int x2), some (.int (x3 + 1))] (gw_leb_le ⟨rfl, rfl, rfl, rfl, trivial⟩) H
        · replace H := H.2 hc
          refine Ev.steps 2 (pc' := 75) (L' := [some (.ref 22), some (.int x1), some (.int x2), some (.int x3)]) (st' := [.int x3, .ref 22]) rfl ?_
          obtain ⟨M2, hr2, H⟩ := H
          refine Ev.call (y := 63) (args := [.ref 22, .int x3]) (rest := []) (r := none) rfl hr2 ?_
          show Ev 3 61 78 [some (.ref 22), some (.int x1), some (.int x2), some (.int x3)] [] _ _
          refine Ev.steps 4 (pc' := 34) (L' := [some (.ref 22), some (.int 1), some (.int x2), some (.int (x3 + 1))]) (st' := []) rfl ?_
          exact Ev.weak [some (.ref 22), some (.int 1), some (.int x2), some (.int (x3 + 1))] (gw_leb_le ⟨rfl, rfl, rfl, rfl, trivial⟩) H
      · replace H := H.2 hc
        refine Ev.steps 2 (pc' := 34) (L' := [some (.ref 22), some (.int x1), some (.int x2), some (.int (x3 + 1))]) (st' := []) rfl ?_
        exact Ev.weak [some (.ref 22), some (.int x1), some (.int x2), some (.int (x3 + 1))] (gw_leb_le ⟨rfl, rfl, rfl, rfl, trivial⟩) H

-- 65 GlassWires$Net floating ()I
set_option maxRecDepth 20000 in
theorem w65_0 {E : gw_N} {M : Mem} {res : Option Value × gw_H}  (H : Ev 3 65 4 [some (.ref 22), some (.int 0), some (.int 0)] [] (hs E M) res) : Ev 3 65 0 [some (.ref 22), none, none] [] (hs E M) res := by
  refine Ev.steps 4 (pc' := 4) (L' := [some (.ref 22), some (.int 0), some (.int 0)]) (st' := []) rfl ?_
  exact Ev.weak [some (.ref 22), some (.int 0), some (.int 0)] (gw_leb_le ⟨rfl, rfl, rfl, trivial⟩) H

set_option maxRecDepth 20000 in
theorem w65_4 {E : gw_N} {M : Mem} {res : Option Value × gw_H} {x1 : Int32} {x2 : Int32} (H : (((F143 M) ≤ x2 → res = (some (.int x1), hs E M)) ∧ (¬ (F143 M) ≤ x2 → (P64 M x2 ∧ Ev 3 65 4 [some (.ref 22), some (.int (x1 + (F206 M (F64 M x2)))), some (.int (x2 + 1))] [] (hs E M) res)))) : Ev 3 65 4 [some (.ref 22), some (.int x1), some (.int x2)] [] (hs E M) res := by
  refine Ev.steps 3 (pc' := 9) (L' := [some (.ref 22), some (.int x1), some (.int x2)]) (st' := [.ref 14, .int x2]) rfl ?_
  refine Ev.call (y := 143) (args := [.ref 14]) (rest := [.int x2]) (r := some (.int (F143 M))) rfl (s143) ?_
  show Ev 3 65 12 [some (.ref 22), some (.int x1), some (.int x2)] [.int (F143 M), .int x2] _ _
  refine Ev.steps 1 (pc' := if (F143 M) ≤ x2 then 32 else 15) (L' := [some (.ref 22), some (.int x1), some (.int x2)]) (st' := []) rfl ?_
  refine Ev_ite (fun hc => ?_) (fun hc => ?_)
  · replace H := H.1 hc
    refine Ev.steps 1 (pc' := 33) (L' := [some (.ref 22), some (.int x1), some (.int x2)]) (st' := [.int x1]) rfl ?_
    subst H
    exact Ev.ret rfl
  · replace H := H.2 hc
    refine Ev.steps 3 (pc' := 18) (L' := [some (.ref 22), some (.int x1), some (.int x2)]) (st' := [.int x2, .ref 22, .int x1]) rfl ?_
    refine Ev.call (y := 64) (args := [.ref 22, .int x2]) (rest := [.int x1]) (r := some (.int (F64 M x2))) rfl (s64 H.1) ?_
    replace H := H.2
    show Ev 3 65 21 [some (.ref 22), some (.int x1), some (.int x2)] [.int (F64 M x2), .int x1] _ _
    refine Ev.call (y := 206) (args := [.int (F64 M x2)]) (rest := [.int x1]) (r := some (.int (F206 M (F64 M x2)))) rfl (s206) ?_
    show Ev 3 65 24 [some (.ref 22), some (.int x1), some (.int x2)] [.int (F206 M (F64 M x2)), .int x1] _ _
    refine Ev.steps 4 (pc' := 4) (L' := [some (.ref 22), some (.int (x1 + (F206 M (F64 M x2)))), some (.int (x2 + 1))]) (st' := []) rfl ?_
    exact Ev.weak [some (.ref 22), some (.int (x1 + (F206 M (F64 M x2)))), some (.int (x2 + 1))] (gw_leb_le ⟨rfl, rfl, rfl, trivial⟩) H

-- 80 GlassWires$Page add (J)I
set_option maxRecDepth 20000 in
theorem w80_0 {E : gw_N} {M : Mem} {res : Option Value × gw_H} {x1 : Int64} (H : (∃ (r1 : Int32), Rn 81 [.long x1] (hs E M) (some (.int r1)) (hs E M) ∧ ((r1 = (-1) → res = (some (.int (-102)), hs E M)) ∧ (¬ r1 = (-1) → (((((M 12) 1) + r1) ≤ 40 → Ev 3 80 30 [some (.ref 12), some (.long x1), none, some (.int r1), some (.int 0)] [] (hs E M) res) ∧ (¬ (((M 12) 1) + r1) ≤ 40 → res = (some (.int (-104)), hs E M))))))) : Ev 3 80 0 [some (.ref 12), some (.long x1), none, none, none] [] (hs E M) res := by
  refine Ev.steps 1 (pc' := 1) (L' := [some (.ref 12), some (.long x1), none, none, none]) (st' := [.long x1]) rfl ?_
  obtain ⟨r1, hr1, H⟩ := H
  refine Ev.call (y := 81) (args := [.long x1]) (rest := []) (r := (some (.int r1))) rfl hr1 ?_
  show Ev 3 80 4 [some (.ref 12), some (.long x1), none, none, none] [.int r1] _ _
  refine Ev.steps 4 (pc' := if r1 = (-1) then 10 else 13) (L' := [some (.ref 12), some (.long x1), none, some (.int r1), none]) (st' := []) rfl ?_
  refine Ev_ite (fun hc => ?_) (fun hc => ?_)
  · replace H := H.1 hc
    refine Ev.steps 1 (pc' := 12) (L' := [some (.ref 12), some (.long x1), none, some (.int r1), none]) (st' := [.int (-102)]) rfl ?_
    subst H
    exact Ev.ret rfl
  · replace H := H.2 hc
    refine Ev.steps 6 (pc' := if (((M 12) 1) + r1) ≤ 40 then 27 else 24) (L' := [some (.ref 12), some (.long x1), none, some (.int r1), none]) (st' := []) rfl ?_
    refine Ev_ite (fun hc => ?_) (fun hc => ?_)
    · replace H := H.1 hc
      refine Ev.steps 2 (pc' := 30) (L' := [some (.ref 12), some (.long x1), none, some (.int r1), some (.int 0)]) (st' := []) rfl ?_
      exact Ev.weak [some (.ref 12), some (.long x1), none, some (.int r1), some (.int 0)] (gw_leb_le ⟨rfl, rfl, rfl, rfl, trivial⟩) H
    · replace H := H.2 hc
      refine Ev.steps 1 (pc' := 26) (L' := [some (.ref 12), some (.long x1), none, some (.int r1), none]) (st' := [.int (-104)]) rfl ?_
      subst H
      exact Ev.ret rfl

set_option maxRecDepth 20000 in
theorem w80_30 {E : gw_N} {M : Mem} {res : Option Value × gw_H} {x1 : Int64} {x3 : Int32} {x4 : Int32} (H : ((x3 ≤ x4 → res = (some (.int ((upd (M 12) 1 (((M 12) 1) + x3)) 1)), hs E (up M 12 (upd (M 12) 1 (((M 12) 1) + x3))))) ∧ (¬ x3 ≤ x4 → (inb (((M 12) 1) + x4) 40 ∧ Ev 3 80 30 [some (.ref 12), some (.long x1), none, some (.int x3), some (.int (x4 + 1))] [] (hs E (up M 13 (upd (M 13) ((((M 12) 1) + x4) : Int32).toNatClampNeg (F82 M x1 x4)))) res)))) : Ev 3 80 30 [some (.ref 12), some (.long x1), none, some (.int x3), some (.int x4)] [] (hs E M) res := by
  refine Ev.steps 3 (pc' := if x3 ≤ x4 then 60 else 36) (L' := [some (.ref 12), some (.long x1), none, some (.int x3), some (.int x4)]) (st' := []) rfl ?_
  refine Ev_ite (fun hc => ?_) (fun hc => ?_)
  · replace H := H.1 hc
    refine Ev.steps 5 (pc' := 67) (L' := [some (.ref 12), some (.long x1), none, some (.int x3), some (.int x4)]) (st' := [.int (((M 12) 1) + x3), .ref 12]) rfl ?_
    refine Ev.mem (a := 12) (g := (upd (M 12) 1 (((M 12) 1) + x3))) (pc' := 70) (L' := [some (.ref 12), some (.long x1), none, some (.int x3), some (.int x4)]) (st' := []) (by decide) rfl ?_
    refine Ev.steps 2 (pc' := 74) (L' := [some (.ref 12), some (.long x1), none, some (.int x3), some (.int x4)]) (st' := [.int ((upd (M 12) 1 (((M 12) 1) + x3)) 1)]) rfl ?_
    subst H
    exact Ev.ret rfl
  · replace H := H.2 hc
    refine Ev.steps 8 (pc' := 50) (L' := [some (.ref 12), some (.long x1), none, some (.int x3), some (.int x4)]) (st' := [.int x4, .long x1, .int (((M 12) 1) + x4), .ref 13]) rfl ?_
    refine Ev.call (y := 82) (args := [.long x1, .int x4]) (rest := [.int (((M 12) 1) + x4), .ref 13]) (r := some (.int (F82 M x1 x4))) rfl (s82) ?_
    show Ev 3 80 53 [some (.ref 12), some (.long x1), none, some (.int x3), some (.int x4)] [.int (F82 M x1 x4), .int (((M 12) 1) + x4), .ref 13] _ _
    refine Ev.wr (a := 13) (g := (upd (M 13) ((((M 12) 1) + x4) : Int32).toNatClampNeg (F82 M x1 x4))) (i := (((M 12) 1) + x4)) (n := 40) (pc' := 54) (L' := [some (.ref 12), some (.long x1), none, some (.int x3), some (.int x4)]) (st' := []) (by decide) H.1 rfl ?_
    replace H := H.2
    refine Ev.steps 2 (pc' := 30) (L' := [some (.ref 12), some (.long x1), none, some (.int x3), some (.int (x4 + 1))]) (st' := []) rfl ?_
    exact Ev.weak [some (.ref 12), some (.long x1), none, some (.int x3), some (.int (x4 + 1))] (gw_leb_le ⟨rfl, rfl, rfl, rfl, trivial⟩) H

-- 85 GlassWires$Page isWire (LGlassWires$Grid;II)Z
set_option maxRecDepth 20000 in
theorem w85_0 {E : gw_N} {M : Mem} {res : Option Value × gw_H} {x2 : Int32} {x3 : Int32} (H : ((((M 12) 1) ≤ 0 → res = (some (.int 0), hs E M)) ∧ (¬ ((M 12) 1) ≤ 0 → (∃ (r1 : Int32), Rn 84 [.ref 12, .ref 9, .int x2, .int x3] (hs E M) (some (.int r1)) (hs E M) ∧ ((r1 = ((M 12) 1) → res = (some (.int 1), hs E M)) ∧ (¬ r1 = ((M 12) 1) → res = (some (.int 0), hs E M))))))) : Ev 3 85 0 [some (.ref 12), some (.ref 9), some (.int x2), some (.int x3)] [] (hs E M) res := by
  refine Ev.steps 3 (pc' := if ((M 12) 1) ≤ 0 then 25 else 7) (L' := [some (.ref 12), some (.ref 9), some (.int x2), some (.int x3)]) (st' := []) rfl ?_
  refine Ev_ite (fun hc => ?_) (fun hc => ?_)
  · replace H := H.1 hc
    refine Ev.steps 1 (pc' := 26) (L' := [some (.ref 12), some (.ref 9), some (.int x2), some (.int x3)]) (st' := [.int 0]) rfl ?_
    subst H
    exact Ev.ret rfl
  · replace H := H.2 hc
    refine Ev.steps 4 (pc' := 11) (L' := [some (.ref 12), some (.ref 9), some (.int x2), some (.int x3)]) (st' := [.int x3, .int x2, .ref 9, .ref 12]) rfl ?_
    obtain ⟨r1, hr1, H⟩ := H
    refine Ev.call (y := 84) (args := [.ref 12, .ref 9, .int x2, .int x3]) (rest := []) (r := (some (.int r1))) rfl hr1 ?_
    show Ev 3 85 14 [some (.ref 12), some (.ref 9), some (.int x2), some (.int x3)] [.int r1] _ _
    refine Ev.steps 3 (pc' := if r1 = ((M 12) 1) then 21 else 25) (L' := [some (.ref 12), some (.ref 9), some (.int x2), some (.int x3)]) (st' := []) rfl ?_
    refine Ev_ite (fun hc => ?_) (fun hc => ?_)
    · replace H := H.1 hc
      refine Ev.steps 2 (pc' := 26) (L' := [some (.ref 12), some (.ref 9), some (.int x2), some (.int x3)]) (st' := [.int 1]) rfl ?_
      subst H
      exact Ev.ret rfl
    · replace H := H.2 hc
      refine Ev.steps 1 (pc' := 26) (L' := [some (.ref 12), some (.ref 9), some (.int x2), some (.int x3)]) (st' := [.int 0]) rfl ?_
      subst H
      exact Ev.ret rfl

