/-! by program (wp.py): formulas that are enough -/
-- 303 GlassWiresModel giveRods (I)I
theorem w303_0 {E : gw_N} {M : Mem} {res : Option Value × gw_H} {x1 : Int32} (H : Ev 1 303 2 [some (.ref 59), some (.int x1), some (.int 0), none, none, none, none, none, none] [] (hs E M) res) : Ev 1 303 0 [some (.ref 59), some (.int x1), none, none, none, none, none, none, none] [] (hs E M) res := by
  refine Ev.steps 2 (pc' := 2) (L' := [some (.ref 59), some (.int x1), some (.int 0), none, none, none, none, none, none]) (st' := []) rfl ?_
  exact Ev.weak [some (.ref 59), some (.int x1), some (.int 0), none, none, none, none, none, none] (gw_leb_le ⟨rfl, rfl, rfl, trivial⟩) H

theorem w303_2 {E : gw_N} {M : Mem} {res : Option Value × gw_H} {x1 : Int32} {x2 : Int32} (H : ((((M 59) 36) ≤ x2 → Ev 1 303 35 [some (.ref 59), some (.int x1), some (.int 0), some (.int 0), some (.int 0), none, none, none, none] [] (hs E M) res) ∧ (¬ ((M 59) 36) ≤ x2 → (inb x2 8 ∧ (inb x2 8 ∧ Ev 1 303 2 [some (.ref 59), some (.int x1), some (.int (x2 + 1)), none, none, none, none, none, none] [] (hs E (up M 89 (upd (M 89) (x2 : Int32).toNatClampNeg ((M 85) (x2 : Int32).toNatClampNeg)))) res))))) : Ev 1 303 2 [some (.ref 59), some (.int x1), some (.int x2), none, none, none, none, none, none] [] (hs E M) res := by
  refine Ev.steps 4 (pc' := if ((M 59) 36) ≤ x2 then 28 else 10) (L' := [some (.ref 59), some (.int x1), some (.int x2), none, none, none, none, none, none]) (st' := []) rfl ?_
  refine Ev_ite (fun hc => ?_) (fun hc => ?_)
  · replace H := H.1 hc
    refine Ev.steps 6 (pc' := 35) (L' := [some (.ref 59), some (.int x1), some (.int 0), some (.int 0), some (.int 0), none, none, none, none]) (st' := []) rfl ?_
    exact Ev.weak [some (.ref 59), some (.int x1), some (.int 0), some (.int 0), some (.int 0), none, none, none, none] (gw_leb_le ⟨rfl, rfl, rfl, rfl, rfl, trivial⟩) H
  · replace H := H.2 hc
    refine Ev.steps 6 (pc' := 20) (L' := [some (.ref 59), some (.int x1), some (.int x2), none, none, none, none, none, none]) (st' := [.int x2, .ref 85, .int x2, .ref 89]) rfl ?_
    refine Ev.rd (i := x2) (n := 8) (pc' := 21) (L' := [some (.ref 59), some (.int x1), some (.int x2), none, none, none, none, none, none]) (st' := [.int ((M 85) (x2 : Int32).toNatClampNeg), .int x2, .ref 89]) H.1 rfl ?_
    replace H := H.2
    refine Ev.wr (a := 89) (g := (upd (M 89) (x2 : Int32).toNatClampNeg ((M 85) (x2 : Int32).toNatClampNeg))) (i := x2) (n := 8) (pc' := 22) (L' := [some (.ref 59), some (.int x1), some (.int x2), none, none, none, none, none, none]) (st' := []) (by decide) H.1 rfl ?_
    replace H := H.2
    refine Ev.steps 2 (pc' := 2) (L' := [some (.ref 59), some (.int x1), some (.int (x2 + 1)), none, none, none, none, none, none]) (st' := []) rfl ?_
    exact Ev.weak [some (.ref 59), some (.int x1), some (.int (x2 + 1)), none, none, none, none, none, none] (gw_leb_le ⟨rfl, rfl, rfl, trivial⟩) H

theorem w303_35 {E : gw_N} {M : Mem} {res : Option Value × gw_H} {x1 : Int32} {x2 : Int32} {x3 : Int32} {x4 : Int32} (H : ((x1 ≤ x4 → res = (some (.int x2), hs E M)) ∧ (¬ x1 ≤ x4 → Ev 1 303 47 [some (.ref 59), some (.int x1), some (.int x2), some (.int x3), some (.int x4), some (.int (-1)), some (.int 0), none, none] [] (hs E M) res))) : Ev 1 303 35 [some (.ref 59), some (.int x1), some (.int x2), some (.int x3), some (.int x4), none, none, none, none] [] (hs E M) res := by
  refine Ev.steps 3 (pc' := if x1 ≤ x4 then 234 else 41) (L' := [some (.ref 59), some (.int x1), some (.int x2), some (.int x3), some (.int x4), none, none, none, none]) (st' := []) rfl ?_
  refine Ev_ite (fun hc => ?_) (fun hc => ?_)
  · replace H := H.1 hc
    refine Ev.steps 1 (pc' := 235) (L' := [some (.ref 59), some (.int x1), some (.int x2), some (.int x3), some (.int x4), none, none, none, none]) (st' := [.int x2]) rfl ?_
    subst H
    exact Ev.ret rfl
  · replace H := H.2 hc
    refine Ev.steps 4 (pc' := 47) (L' := [some (.ref 59), some (.int x1), some (.int x2), some (.int x3), some (.int x4), some (.int (-1)), some (.int 0), none, none]) (st' := []) rfl ?_
    exact Ev.weak [some (.ref 59), some (.int x1), some (.int x2), some (.int x3), some (.int x4), some (.int (-1)), some (.int 0), none, none] (gw_leb_le ⟨rfl, rfl, rfl, rfl, rfl, rfl, rfl, trivial⟩) H

theorem w303_47 {E : gw_N} {M : Mem} {res : Option Value × gw_H} {x1 : Int32} {x2 : Int32} {x3 : Int32} {x4 : Int32} {x5 : Int32} {x6 : Int32} (H : ((x1 ≤ x6 → Ev 1 303 113 [some (.ref 59), some (.int x1), some (.int x2), some (.int (x3 ||| (1 <<< (x5 &&& 31)))), some (.int x4), some (.int x5), some (.int (-1)), some (.int 0), none] [] (hs E M) res) ∧ (¬ x1 ≤ x6 → ((((x3 >>> (x6 &&& 31)) &&& 1) = 0 → ((x5 = (-1) → Ev 1 303 47 [some (.ref 59), some (.int x1), some (.int x2), some (.int x3), some (.int x4), some (.int x6), some (.int (x6 + 1)), none, none] [] (hs E M) res) ∧ (¬ x5 = (-1) → (inb x6 8 ∧ (inb x5 8 ∧ ((((M 88) (x6 : Int32).toNatClampNeg) ≤ ((M 88) (x5 : Int32).toNatClampNeg) → Ev 1 303 47 [some (.ref 59), some (.int x1), some (.int x2), some (.int x3), some (.int x4), some (.int x5), some (.int (x6 + 1)), none, none] [] (hs E M) res) ∧ (¬ ((M 88) (x6 : Int32).toNatClampNeg) ≤ ((M 88) (x5 : Int32).toNatClampNeg) → Ev 1 303 47 [some (.ref 59), some (.int x1), some (.int x2), some (.int x3), some (.int x4), some (.int x6), some (.int (x6 + 1)), none, none] [] (hs E M) res))))))) ∧ (¬ ((x3 >>> (x6 &&& 31)) &&& 1) = 0 → Ev 1 303 47 [some (.ref 59), some (.int x1), some (.int x2), some (.int x3), some (.int x4), some (.int x5), some (.int (x6 + 1)), none, none] [] (hs E M) res))))) : Ev 1 303 47 [some (.ref 59), some (.int x1), some (.int x2), some (.int x3), some (.int x4), some (.int x5), some (.int x6), none, none] [] (hs E M) res := by
  refine Ev.steps 3 (pc' := if x1 ≤ x6 then 100 else 53) (L' := [some (.ref 59), some (.int x1), some (.int x2), some (.int x3), some (.int x4), some (.int x5), some (.int x6), none, none]) (st' := []) rfl ?_
  refine Ev_ite (fun hc => ?_) (fun hc => ?_)
  · replace H := H.1 hc
    refine Ev.steps 10 (pc' := 113) (L' := [some (.ref 59), some (.int x1), some (.int x2), some (.int (x3 ||| (1 <<< (x5 &&& 31)))), some (.int x4), some (.int x5), some (.int (-1)), some (.int 0), none]) (st' := []) rfl ?_
    exact Ev.weak [some (.ref 59), some (.int x1), some (.int x2), some (.int (x3 ||| (1 <<< (x5 &&& 31)))), some (.int x4), some (.int x5), some (.int (-1)), some (.int 0), none] (gw_leb_le ⟨rfl, rfl, rfl, rfl, rfl, rfl, rfl, rfl, trivial⟩) H
  · replace H := H.2 hc
    refine Ev.steps 6 (pc' := if ((x3 >>> (x6 &&& 31)) &&& 1) = 0 then 62 else 90) (L' := [some (.ref 59), some (.int x1), some (.int x2), some (.int x3), some (.int x4), some (.int x5), some (.int x6), none, none]) (st' := []) rfl ?_
    refine Ev_ite (fun hc => ?_) (fun hc => ?_)
    · replace H := H.1 hc
      refine Ev.steps 3 (pc' := if x5 = (-1) then 85 else 68) (L' := [some (.ref 59), some (.int x1), some (.int x2), some (.int x3), some (.int x4), some (.int x5), some (.int x6), none, none]) (st' := []) rfl ?_
      refine Ev_ite (fun hc => ?_) (fun hc => ?_)
      · replace H := H.1 hc
        refine Ev.steps 5 (pc' := 47) (L' := [some (.ref 59), some (.int x1), some (.int x2), some (.int x3), some (.int x4), some (.int x6), some (.int (x6 + 1)), none, none]) (st' := []) rfl ?_
        exact Ev.weak [some (.ref 59), some (.int x1), some (.int x2), some (.int x3), some (.int x4), some (.int x6), some (.int (x6 + 1)), none, none] (gw_leb_le ⟨rfl, rfl, rfl, rfl, rfl, rfl, rfl, trivial⟩) H
      · replace H := H.2 hc
        refine Ev.steps 3 (pc' := 74) (L' := [some (.ref 59), some (.int x1), some (.int x2), some (.int x3), some (.int x4), some (.int x5), some (.int x6), none, none]) (st' := [.int x6, .ref 88]) rfl ?_
        refine Ev.rd (i := x6) (n := 8) (pc' := 75) (L' := [some (.ref 59), some (.int x1), some (.int x2), some (.int x3), some (.int x4), some (.int x5), some (.int x6), none, none]) (st' := [.int ((M 88) (x6 : Int32).toNatClampNeg)]) H.1 rfl ?_
        replace H := H.2
        refine Ev.steps 3 (pc' := 81) (L' := [some (.ref 59), some (.int x1), some (.int x2), some (.int x3), some (.int x4), some (.int x5), some (.int x6), none, none]) (st' := [.int x5, .ref 88, .int ((M 88) (x6 : Int32).toNatClampNeg)]) rfl ?_
        refine Ev.rd (i := x5) (n := 8) (pc' := 82) (L' := [some (.ref 59), some (.int x1), some (.int x2), some (.int x3), some (.int x4), some (.int x5), some (.int x6), none, none]) (st' := [.int ((M 88) (x5 : Int32).toNatClampNeg), .int ((M 88) (x6 : Int32).toNatClampNeg)]) H.1 rfl ?_
        replace H := H.2
        refine Ev.steps 1 (pc' := if ((M 88) (x6 : Int32).toNatClampNeg) ≤ ((M 88) (x5 : Int32).toNatClampNeg) then 90 else 85) (L' := [some (.ref 59), some (.int x1), some (.int x2), some (.int x3), some (.int x4), some (.int x5), some (.int x6), none, none]) (st' := []) rfl ?_
        refine Ev_ite (fun hc => ?_) (fun hc => ?_)
        · replace H := H.1 hc
          refine Ev.steps 4 (pc' := 47) (L' := [some (.ref 59), some (.int x1), some (.int x2), some (.int x3), some (.int x4), some (.int x5), some (.int (x6 + 1)), none, none]) (st' := []) rfl ?_
          exact Ev.weak [some (.ref 59), some (.int x1), some (.int x2), some (.int x3), some (.int x4), some (.int x5), some (.int (x6 + 1)), none, none] (gw_leb_le ⟨rfl, rfl, rfl, rfl, rfl, rfl, rfl, trivial⟩) H
        · replace H := H.2 hc
          refine Ev.steps 5 (pc' := 47) (L' := [some (.ref 59), some (.int x1), some (.int x2), some (.int x3), some (.int x4), some (.int x6), some (.int (x6 + 1)), none, none]) (st' := []) rfl ?_
          exact Ev.weak [some (.ref 59), some (.int x1), some (.int x2), some (.int x3), some (.int x4), some (.int x6), some (.int (x6 + 1)), none, none] (gw_leb_le ⟨rfl, rfl, rfl, rfl, rfl, rfl, rfl, trivial⟩) H
    · replace H := H.2 hc
      refine Ev.steps 4 (pc' := 47) (L' := [some (.ref 59), some (.int x1), some (.int x2), some (.int x3), some (.int x4), some (.int x5), some (.int (x6 + 1)), none, none]) (st' := []) rfl ?_
      exact Ev.weak [some (.ref 59), some (.int x1), some (.int x2), some (.int x3), some (.int x4), some (.int x5), some (.int (x6 + 1)), none, none] (gw_leb_le ⟨rfl, rfl, rfl, rfl, rfl, rfl, rfl, trivial⟩) H

theorem w303_113 {E : gw_N} {M : Mem} {res : Option Value × gw_H} {x1 : Int32} {x2 : Int32} {x3 : Int32} {x4 : Int32} {x5 : Int32} {x6 : Int32} {x7 : Int32} (H : ((((M 59) 36) ≤ x7 → ((x6 = (-1) → res = (some (.int (-1)), hs E M)) ∧ (¬ x6 = (-1) → (inb x6 8 ∧ (inb x6 8 ∧ (inb x6 8 ∧ Ev 1 303 35 [some (.ref 59), some (.int x1), some (.int (x2 + ((M 84) (x6 : Int32).toNatClampNeg))), some (.int x3), some (.int (x4 + 1)), none, none, none, none] [] (hs E (up M 89 (upd (M 89) (x6 : Int32).toNatClampNeg (((M 89) (x6 : Int32).toNatClampNeg) - 1)))) res)))))) ∧ (¬ ((M 59) 36) ≤ x7 → (inb x7 8 ∧ ((((M 89) (x7 : Int32).toNatClampNeg) ≤ 0 → Ev 1 303 113 [some (.ref 59), some (.int x1), some (.int x2), some (.int x3), some (.int x4), some (.int x5), some (.int x6), some (.int (x7 + 1)), none] [] (hs E M) res) ∧ (¬ ((M 89) (x7 : Int32).toNatClampNeg) ≤ 0 → (inb x7 8 ∧ (inb x5 8 ∧ ((((M 84) (x7 : Int32).toNatClampNeg) < ((M 88) (x5 : Int32).toNatClampNeg) → Ev 1 303 113 [some (.ref 59), some (.int x1), some (.int x2), some (.int x3), some (.int x4), some (.int x5), some (.int x6), some (.int (x7 + 1)), none] [] (hs E M) res) ∧ (¬ ((M 84) (x7 : Int32).toNatClampNeg) < ((M 88) (x5 : Int32).toNatClampNeg) → ((x6 = (-1) → Ev 1 303 113 [some (.ref 59), some (.int x1), some (.int x2), some (.int x3), some (.int x4), some (.int x5), some (.int x7), some (.int (x7 + 1)), none] [] (hs E M) res) ∧ (¬ x6 = (-1) → (inb x7 8 ∧ (inb x6 8 ∧ ((((M 84) (x6 : Int32).toNatClampNeg) ≤ ((M 84) (x7 : Int32).toNatClampNeg) → Ev 1 303 113 [some (.ref 59), some (.int x1), some (.int x2), some (.int x3), some (.int x4), some (.int x5), some (.int x6), some (.int (x7 + 1)), none] [] (hs E M) res) ∧ (¬ ((M 84) (x6 : Int32).toNatClampNeg) ≤ ((M 84) (x7 : Int32).toNatClampNeg) → Ev 1 303 113 [some (.ref 59), some (.int x1), some (.int x2), some (.int x3), some (.int x4), some (.int x5), some (.int x7), some (.int (x7 + 1)), none] [] (hs E M) res)))))))))))))))) : Ev 1 303 113 [some (.ref 59), some (.int x1), some (.int x2), some (.int x3), some (.int x4), some (.int x5), some (.int x6), some (.int x7), none] [] (hs E M) res := by
  refine Ev.steps 4 (pc' := if ((M 59) 36) ≤ x7 then 199 else 122) (L' := [some (.ref 59), some (.int x1), some (.int x2), some (.int x3), some (.int x4), some (.int x5), some (.int x6), some (.int x7), none]) (st' := []) rfl ?_
  refine Ev_ite (fun hc => ?_) (fun hc => ?_)
  · replace H := H.1 hc
    refine Ev.steps 3 (pc' := if x6 = (-1) then 205 else 207) (L' := [some (.ref 59), some (.int x1), some (.int x2), some (.int x3), some (.int x4), some (.int x5), some (.int x6), some (.int x7), none]) (st' := []) rfl ?_
    refine Ev_ite (fun hc => ?_) (fun hc => ?_)
    · replace H := H.1 hc
      refine Ev.steps 1 (pc' := 206) (L' := [some (.ref 59), some (.int x1), some (.int x2), some (.int x3), some (.int x4), some (.int x5), some (.int x6), some (.int x7), none]) (st' := [.int (-1)]) rfl ?_
      subst H
      exact Ev.ret rfl
    · replace H := H.2 hc
      refine Ev.steps 4 (pc' := 214) (L' := [some (.ref 59), some (.int x1), some (.int x2), some (.int x3), some (.int x4), some (.int x5), some (.int x6), some (.int x7), none]) (st' := [.int x6, .ref 89, .int x6, .ref 89]) rfl ?_
      refine Ev.rd (i := x6) (n := 8) (pc' := 215) (L' := [some (.ref 59), some (.int x1), some (.int x2), some (.int x3), some (.int x4), some (.int x5), some (.int x6), some (.int x7), none]) (st' := [.int ((M 89) (x6 : Int32).toNatClampNeg), .int x6, .ref 89]) H.1 rfl ?_
      replace H := H.2
      refine Ev.steps 2 (pc' := 217) (L' := [some (.ref 59), some (.int x1), some (.int x2), some (.int x3), some (.int x4), some (.int x5), some (.int x6), some (.int x7), none]) (st' := [.int (((M 89) (x6 : Int32).toNatClampNeg) - 1), .int x6, .ref 89]) rfl ?_
      refine Ev.wr (a := 89) (g := (upd (M 89) (x6 : Int32).toNatClampNeg (((M 89) (x6 : Int32).toNatClampNeg) - 1))) (i := x6) (n := 8) (pc' := 218) (L' := [some (.ref 59), some (.int x1), some (.int x2), some (.int x3), some (.int x4), some (.int x5), some (.int x6), some (.int x7), none]) (st' := []) (by decide) H.1 rfl ?_
      replace H := H.2
      refine Ev.steps 4 (pc' := 225) (L' := [some (.ref 59), some (.int x1), some (.int x2), some (.int x3), some (.int x4), some (.int x5), some (.int x6), some (.int x7), none]) (st' := [.int x6, .ref 84, .int x2]) rfl ?_
      refine Ev.rd (i := x6) (n := 8) (pc' := 226) (L' := [some (.ref 59), some (.int x1), some (.int x2), some (.int x3), some (.int x4), some (.int x5), some (.int x6), some (.int x7), none]) (st' := [.int ((M 84) (x6 : Int32).toNatClampNeg), .int x2]) H.1 rfl ?_
      replace H := H.2
      refine Ev.steps 4 (pc' := 35) (L' := [some (.ref 59), some (.int x1), some (.int (x2 + ((M 84) (x6 : Int32).toNatClampNeg))), some (.int x3), some (.int (x4 + 1)), some (.int x5), some (.int x6), some (.int x7), none]) (st' := []) rfl ?_
      exact Ev.weak [some (.ref 59), some (.int x1), some (.int (x2 + ((M 84) (x6 : Int32).toNatClampNeg))), some (.int x3), some (.int (x4 + 1)), none, none, none, none] (gw_leb_le ⟨rfl, rfl, rfl, rfl, rfl, trivial⟩) H
  · replace H := H.2 hc
    refine Ev.steps 3 (pc' := 128) (L' := [some (.ref 59), some (.int x1), some (.int x2), some (.int x3), some (.int x4), some (.int x5), some (.int x6), some (.int x7), none]) (st' := [.int x7, .ref 89]) rfl ?_
    refine Ev.rd (i := x7) (n := 8) (pc' := 129) (L' := [some (.ref 59), some (.int x1), some (.int x2), some (.int x3), some (.int x4), some (.int x5), some (.int x6), some (.int x7), none]) (st' := [.int ((M 89) (x7 : Int32).toNatClampNeg)]) H.1 rfl ?_
    replace H := H.2
    refine Ev.steps 1 (pc' := if ((M 89) (x7 : Int32).toNatClampNeg) ≤ 0 then 153 else 132) (L' := [some (.ref 59), some (.int x1), some (.int x2), some (.int x3), some (.int x4), some (.int x5), some (.int x6), some (.int x7), none]) (st' := []) rfl ?_
    refine Ev_ite (fun hc => ?_) (fun hc => ?_)
    · replace H := H.1 hc
      refine Ev.steps 8 (pc' := 113) (L' := [some (.ref 59), some (.int x1), some (.int x2), some (.int x3), some (.int x4), some (.int x5), some (.int x6), some (.int (x7 + 1)), some (.int 0)]) (st' := []) rfl ?_
      exact Ev.weak [some (.ref 59), some (.int x1), some (.int x2), some (.int x3), some (.int x4), some (.int x5), some (.int x6), some (.int (x7 + 1)), none] (gw_leb_le ⟨rfl, rfl, rfl, rfl, rfl, rfl, rfl, rfl, trivial⟩) H
    · replace H := H.2 hc
      refine Ev.steps 3 (pc' := 138) (L' := [some (.ref 59), some (.int x1), some (.int x2), some (.int x3), some (.int x4), some (.int x5), some (.int x6), some (.int x7), none]) (st' := [.int x7, .ref 84]) rfl ?_
      refine Ev.rd (i := x7) (n := 8) (pc' := 139) (L' := [some (.ref 59), some (.int x1), some (.int x2), some (.int x3), some (.int x4), some (.int x5), some (.int x6), some (.int x7), none]) (st' := [.int ((M 84) (x7 : Int32).toNatClampNeg)]) H.1 rfl ?_
      replace H := H.2
      refine Ev.steps 3 (pc' := 145) (L' := [some (.ref 59), some (.int x1), some (.int x2), some (.int x3), some (.int x4), some (.int x5), some (.int x6), some (.int x7), none]) (st' := [.int x5, .ref 88, .int ((M 84) (x7 : Int32).toNatClampNeg)]) rfl ?_
      refine Ev.rd (i := x5) (n := 8) (pc' := 146) (L' := [some (.ref 59), some (.int x1), some (.int x2), some (.int x3), some (.int x4), some (.int x5), some (.int x6), some (.int x7), none]) (st' := [.int ((M 88) (x5 : Int32).toNatClampNeg), .int ((M 84) (x7 : Int32).toNatClampNeg)]) H.1 rfl ?_
      replace H := H.2
      refine Ev.steps 1 (pc' := if ((M 84) (x7 : Int32).toNatClampNeg) < ((M 88) (x5 : Int32).toNatClampNeg) then 153 else 149) (L' := [some (.ref 59), some (.int x1), some (.int x2), some (.int x3), some (.int x4), some (.int x5), some (.int x6), some (.int x7), none]) (st' := []) rfl ?_
      refine Ev_ite (fun hc => ?_) (fun hc => ?_)
      · replace H := H.1 hc
        refine Ev.steps 8 (pc' := 113) (L' := [some (.ref 59), some (.int x1), some (.int x2), some (.int x3), some (.int x4), some (.int x5), some (.int x6), some (.int (x7 + 1)), some (.int 0)]) (st' := []) rfl ?_
        exact Ev.weak [some (.ref 59), some (.int x1), some (.int x2), some (.int x3), some (.int x4), some (.int x5), some (.int x6), some (.int (x7 + 1)), none] (gw_leb_le ⟨rfl, rfl, rfl, rfl, rfl, rfl, rfl, rfl, trivial⟩) H
      · replace H := H.2 hc
        refine Ev.steps 8 (pc' := if x6 = (-1) then 184 else 167) (L' := [some (.ref 59), some (.int x1), some (.int x2), some (.int x3), some (.int x4), some (.int x5), some (.int x6), some (.int x7), some (.int 1)]) (st' := []) rfl ?_
        refine Ev_ite (fun hc => ?_) (fun hc => ?_)
        · replace H := H.1 hc
          refine Ev.steps 5 (pc' := 113) (L' := [some (.ref 59), some (.int x1), some (.int x2), some (.int x3), some (.int x4), some (.int x5), some (.int x7), some (.int (x7 + 1)), some (.int 1)]) (st' := []) rfl ?_
          exact Ev.weak [some (.ref 59), some (.int x1), some (.int x2), some (.int x3), some (.int x4), some (.int x5), some (.int x7), some (.int (x7 + 1)), none] (gw_leb_le ⟨rfl, rfl, rfl, rfl, rfl, rfl, rfl, rfl, trivial⟩) H
        · replace H := H.2 hc
          refine Ev.steps 3 (pc' := 173) (L' := [some (.ref 59), some (.int x1), some (.int x2), some (.int x3), some (.int x4), some (.int x5), some (.int x6), some (.int x7), some (.int 1)]) (st' := [.int x7, .ref 84]) rfl ?_
          refine Ev.rd (i := x7) (n := 8) (pc' := 174) (L' := [some (.ref 59), some (.int x1), some (.int x2), some (.int x3), some (.int x4), some (.int x5), some (.int x6), some (.int x7), some (.int 1)]) (st' := [.int ((M 84) (x7 : Int32).toNatClampNeg)]) H.1 rfl ?_
          replace H := H.2
          refine Ev.steps 3 (pc' := 180) (L' := [some (.ref 59), some (.int x1), some (.int x2), some (.int x3), some (.int x4), some (.int x5), some (.int x6), some (.int x7), some (.int 1)]) (st' := [.int x6, .ref 84, .int ((M 84) (x7 : Int32).toNatClampNeg)]) rfl ?_
          refine Ev.rd (i := x6) (n := 8) (pc' := 181) (L' := [some (.ref 59), some (.int x1), some (.int x2), some (.int x3), some (.int x4), some (.int x5), some (.int x6), some (.int x7), some (.int 1)]) (st' := [.int ((M 84) (x6 : Int32).toNatClampNeg), .int ((M 84) (x7 : Int32).toNatClampNeg)]) H.1 rfl ?_
          replace H := H.2
          refine Ev.steps 1 (pc' := if ((M 84) (x6 : Int32).toNatClampNeg) ≤ ((M 84) (x7 : Int32).toNatClampNeg) then 189 else 184) (L' := [some (.ref 59), some (.int x1), some (.int x2), some (.int x3), some (.int x4), some (.int x5), some (.int x6), some (.int x7), some (.int 1)]) (st' := []) rfl ?_
          refine Ev_ite (fun hc => ?_) (fun hc => ?_)
          · replace H := H.1 hc
            refine Ev.steps 4 (pc' := 113) (L' := [some (.ref 59), some (.int x1), some (.int x2), some (.int x3), some (.int x4), some (.int x5), some (.int x6), some (.int (x7 + 1)), some (.int 1)]) (st' := []) rfl ?_
            exact Ev.weak [some (.ref 59), some (.int x1), some (.int x2), some (.int x3), some (.int x4), some (.int x5), some (.int x6), some (.int (x7 + 1)), none] (gw_leb_le ⟨rfl, rfl, rfl, rfl, rfl, rfl, rfl, rfl, trivial⟩) H
          · replace H := H.2 hc
            refine Ev.steps 5 (pc' := 113) (L' := [some (.ref 59), some (.int x1), some (.int x2), some (.int x3), some (.int x4), some (.int x5), some (.int x7), some (.int (x7 + 1)), some (.int 1)]) (st' := []) rfl ?_
            exact Ev.weak [some (.ref 59), some (.int x1), some (.int x2), some (.int x3), some (.int x4), some (.int x5), some (.int x7), some (.int (x7 + 1)), none] (gw_leb_le ⟨rfl, rfl, rfl, rfl, rfl, rfl, rfl, rfl, trivial⟩) H

-- 304 GlassWiresModel nextGroups ()Z
theorem w304_0 {E : gw_N} {M : Mem} {res : Option Value × gw_H}  (H : Ev 1 304 7 [some (.ref 59), some (.int (((M 59) 40) - 1)), none, none] [] (hs E M) res) : Ev 1 304 0 [some (.ref 59), none, none, none] [] (hs E M) res := by
  refine Ev.steps 5 (pc' := 7) (L' := [some (.ref 59), some (.int (((M 59) 40) - 1)), none, none]) (st' := []) rfl ?_
  exact Ev.weak [some (.ref 59), some (.int (((M 59) 40) - 1)), none, none] (gw_leb_le ⟨rfl, rfl, trivial⟩) H

theorem w304_7 {E : gw_N} {M : Mem} {res : Option Value × gw_H} {x1 : Int32} (H : ((x1 ≤ 0 → res = (some (.int 0), hs E M)) ∧ (¬ x1 ≤ 0 → Ev 1 304 15 [some (.ref 59), some (.int x1), some (.int 0), some (.int 0)] [] (hs E M) res))) : Ev 1 304 7 [some (.ref 59), some (.int x1), none, none] [] (hs E M) res := by
  refine Ev.steps 2 (pc' := if x1 ≤ 0 then 100 else 11) (L' := [some (.ref 59), some (.int x1), none, none]) (st' := []) rfl ?_
  refine Ev_ite (fun hc => ?_) (fun hc => ?_)
  · replace H := H.1 hc
    refine Ev.steps 1 (pc' := 101) (L' := [some (.ref 59), some (.int x1), none, none]) (st' := [.int 0]) rfl ?_
    subst H
    exact Ev.ret rfl
  · replace H := H.2 hc
    refine Ev.steps 4 (pc' := 15) (L' := [some (.ref 59), some (.int x1), some (.int 0), some (.int 0)]) (st' := []) rfl ?_
    exact Ev.weak [some (.ref 59), some (.int x1), some (.int 0), some (.int 0)] (gw_leb_le ⟨rfl, rfl, rfl, rfl, trivial⟩) H

theorem w304_15 {E : gw_N} {M : Mem} {res : Option Value × gw_H} {x1 : Int32} {x2 : Int32} {x3 : Int32} (H : ((x1 ≤ x3 → (inb x1 8 ∧ ((x2 < ((M 87) (x1 : Int32).toNatClampNeg) → Ev 1 304 7 [some (.ref 59), some (.int (x1 + (-1))), none, none] [] (hs E M) res) ∧ (¬ x2 < ((M 87) (x1 : Int32).toNatClampNeg) → (inb x1 8 ∧ (inb x1 8 ∧ Ev 1 304 71 [some (.ref 59), none, none, some (.int (x1 + 1))] [] (hs E (up M 87 (upd (M 87) (x1 : Int32).toNatClampNeg (((M 87) (x1 : Int32).toNatClampNeg) + 1)))) res)))))) ∧ (¬ x1 ≤ x3 → (inb x3 8 ∧ ((((M 87) (x3 : Int32).toNatClampNeg) ≤ x2 → Ev 1 304 15 [some (.ref 59), some (.int x1), some (.int x2), some (.int (x3 + 1))] [] (hs E M) res) ∧ (¬ ((M 87) (x3 : Int32).toNatClampNeg) ≤ x2 → (inb x3 8 ∧ Ev 1 304 15 [some (.ref 59), some (.int x1), some (.int ((M 87) (x3 : Int32).toNatClampNeg)), some (.int (x3 + 1))] [] (hs E M) res))))))) : Ev 1 304 15 [some (.ref 59), some (.int x1), some (.int x2), some (.int x3)] [] (hs E M) res := by
  refine Ev.steps 3 (pc' := if x1 ≤ x3 then 47 else 20) (L' := [some (.ref 59), some (.int x1), some (.int x2), some (.int x3)]) (st' := []) rfl ?_
  refine Ev_ite (fun hc => ?_) (fun hc => ?_)
  · replace H := H.1 hc
    refine Ev.steps 3 (pc' := 52) (L' := [some (.ref 59), some (.int x1), some (.int x2), some (.int x3)]) (st' := [.int x1, .ref 87]) rfl ?_
    refine Ev.rd (i := x1) (n := 8) (pc' := 53) (L' := [some (.ref 59), some (.int x1), some (.int x2), some (.int x3)]) (st' := [.int ((M 87) (x1 : Int32).toNatClampNeg)]) H.1 rfl ?_
    replace H := H.2
    refine Ev.steps 2 (pc' := if x2 < ((M 87) (x1 : Int32).toNatClampNeg) then 94 else 57) (L' := [some (.ref 59), some (.int x1), some (.int x2), some (.int x3)]) (st' := []) rfl ?_
    refine Ev_ite (fun hc => ?_) (fun hc => ?_)
    · replace H := H.1 hc
      refine Ev.steps 2 (pc' := 7) (L' := [some (.ref 59), some (.int (x1 + (-1))), some (.int x2), some (.int x3)]) (st' := []) rfl ?_
      exact Ev.weak [some (.ref 59), some (.int (x1 + (-1))), none, none] (gw_leb_le ⟨rfl, rfl, trivial⟩) H
    · replace H := H.2 hc
      refine Ev.steps 4 (pc' := 63) (L' := [some (.ref 59), some (.int x1), some (.int x2), some (.int x3)]) (st' := [.int x1, .ref 87, .int x1, .ref 87]) rfl ?_
      refine Ev.rd (i := x1) (n := 8) (pc' := 64) (L' := [some (.ref 59), some (.int x1), some (.int x2), some (.int x3)]) (st' := [.int ((M 87) (x1 : Int32).toNatClampNeg), .int x1, .ref 87]) H.1 rfl ?_
      replace H := H.2
      refine Ev.steps 2 (pc' := 66) (L' := [some (.ref 59), some (.int x1), some (.int x2), some (.int x3)]) (st' := [.int (((M 87) (x1 : Int32).toNatClampNeg) + 1), .int x1, .ref 87]) rfl ?_
      refine Ev.wr (a := 87) (g := (upd (M 87) (x1 : Int32).toNatClampNeg (((M 87) (x1 : Int32).toNatClampNeg) + 1))) (i := x1) (n := 8) (pc' := 67) (L' := [some (.ref 59), some (.int x1), some (.int x2), some (.int x3)]) (st' := []) (by decide) H.1 rfl ?_
      replace H := H.2
      refine Ev.steps 4 (pc' := 71) (L' := [some (.ref 59), some (.int x1), some (.int x2), some (.int (x1 + 1))]) (st' := []) rfl ?_
      exact Ev.weak [some (.ref 59), none, none, some (.int (x1 + 1))] (gw_leb_le ⟨rfl, rfl, trivial⟩) H
  · replace H := H.2 hc
    refine Ev.steps 3 (pc' := 25) (L' := [some (.ref 59), some (.int x1), some (.int x2), some (.int x3)]) (st' := [.int x3, .ref 87]) rfl ?_
    refine Ev.rd (i := x3) (n := 8) (pc' := 26) (L' := [some (.ref 59), some (.int x1), some (.int x2), some (.int x3)]) (st' := [.int ((M 87) (x3 : Int32).toNatClampNeg)]) H.1 rfl ?_
    replace H := H.2
    refine Ev.steps 2 (pc' := if ((M 87) (x3 : Int32).toNatClampNeg) ≤ x2 then 39 else 30) (L' := [some (.ref 59), some (.int x1), some (.int x2), some (.int x3)]) (st' := []) rfl ?_
    refine Ev_ite (fun hc => ?_) (fun hc => ?_)
    · replace H := H.1 hc
      refine Ev.steps 4 (pc' := 15) (L' := [some (.ref 59), some (.int x1), some (.int x2), some (.int (x3 + 1))]) (st' := []) rfl ?_
      exact Ev.weak [some (.ref 59), some (.int x1), some (.int x2), some (.int (x3 + 1))] (gw_leb_le ⟨rfl, rfl, rfl, rfl, trivial⟩) H
    · replace H := H.2 hc
      refine Ev.steps 3 (pc' := 35) (L' := [some (.ref 59), some (.int x1), some (.int x2), some (.int x3)]) (st' := [.int x3, .ref 87]) rfl ?_
      refine Ev.rd (i := x3) (n := 8) (pc' := 36) (L' := [some (.ref 59), some (.int x1), some (.int x2), some (.int x3)]) (st' := [.int ((M 87) (x3 : Int32).toNatClampNeg)]) H.1 rfl ?_
      replace H := H.2
      refine Ev.steps 4 (pc' := 15) (L' := [some (.ref 59), some (.int x1), some (.int ((M 87) (x3 : Int32).toNatClampNeg)), some (.int (x3 + 1))]) (st' := []) rfl ?_
      exact Ev.weak [some (.ref 59), some (.int x1), some (.int ((M 87) (x3 : Int32).toNatClampNeg)), some (.int (x3 + 1))] (gw_leb_le ⟨rfl, rfl, rfl, rfl, trivial⟩) H

theorem w304_71 {E : gw_N} {M : Mem} {res : Option Value × gw_H} {x3 : Int32} (H : ((((M 59) 40) ≤ x3 → res = (some (.int 1), hs E M)) ∧ (¬ ((M 59) 40) ≤ x3 → (inb x3 8 ∧ Ev 1 304 71 [some (.ref 59), none, none, some (.int (x3 + 1))] [] (hs E (up M 87 (upd (M 87) (x3 : Int32).toNatClampNeg 0))) res)))) : Ev 1 304 71 [some (.ref 59), none, none, some (.int x3)] [] (hs E M) res := by
  refine Ev.steps 4 (pc' := if ((M 59) 40) ≤ x3 then 92 else 79) (L' := [some (.ref 59), none, none, some (.int x3)]) (st' := []) rfl ?_
  refine Ev_ite (fun hc => ?_) (fun hc => ?_)
  · replace H := H.1 hc
    refine Ev.steps 1 (pc' := 93) (L' := [some (.ref 59), none, none, some (.int x3)]) (st' := [.int 1]) rfl ?_
    subst H
    exact Ev.ret rfl
  · replace H := H.2 hc
    refine Ev.steps 4 (pc' := 85) (L' := [some (.ref 59), none, none, some (.int x3)]) (st' := [.int 0, .int x3, .ref 87]) rfl ?_
    refine Ev.wr (a := 87) (g := (upd (M 87) (x3 : Int32).toNatClampNeg 0)) (i := x3) (n := 8) (pc' := 86) (L' := [some (.ref 59), none, none, some (.int x3)]) (st' := []) (by decide) H.1 rfl ?_
    replace H := H.2
    refine Ev.steps 2 (pc' := 71) (L' := [some (.ref 59), none, none, some (.int (x3 + 1))]) (st' := []) rfl ?_
    exact Ev.weak [some (.ref 59), none, none, some (.int (x3 + 1))] (gw_leb_le ⟨rfl, rfl, trivial⟩) H

-- 305 GlassWiresModel laidWires ()I
theorem w305_0 {E : gw_N} {M : Mem} {res : Option Value × gw_H}  (H : Ev 1 305 4 [some (.ref 59), some (.int 0), some (.int 0)] [] (hs E M) res) : Ev 1 305 0 [some (.ref 59), none, none] [] (hs E M) res := by
  refine Ev.steps 4 (pc' := 4) (L' := [some (.ref 59), some (.int 0), some (.int 0)]) (st' := []) rfl ?_
  exact Ev.weak [some (.ref 59), some (.int 0), some (.int 0)] (gw_leb_le ⟨rfl, rfl, rfl, trivial⟩) H

theorem w305_4 {E : gw_N} {M : Mem} {res : Option Value × gw_H} {x1 : Int32} {x2 : Int32} (H : ((((M 59) 4) ≤ x2 → res = (some (.int x1), hs E M)) ∧ (¬ ((M 59) 4) ≤ x2 → (inb x2 30 ∧ ((((M 64) (x2 : Int32).toNatClampNeg) = 0 → Ev 1 305 4 [some (.ref 59), some (.int (x1 + 0)), some (.int (x2 + 1))] [] (hs E M) res) ∧ (¬ ((M 64) (x2 : Int32).toNatClampNeg) = 0 → Ev 1 305 4 [some (.ref 59), some (.int (x1 + 1)), some (.int (x2 + 1))] [] (hs E M) res)))))) : Ev 1 305 4 [some (.ref 59), some (.int x1), some (.int x2)] [] (hs E M) res := by
  refine Ev.steps 4 (pc' := if ((M 59) 4) ≤ x2 then 35 else 12) (L' := [some (.ref 59), some (.int x1), some (.int x2)]) (st' := []) rfl ?_
  refine Ev_ite (fun hc => ?_) (fun hc => ?_)
  · replace H := H.1 hc
    refine Ev.steps 1 (pc' := 36) (L' := [some (.ref 59), some (.int x1), some (.int x2)]) (st' := [.int x1]) rfl ?_
    subst H
    exact Ev.ret rfl
  · replace H := H.2 hc
    refine Ev.steps 4 (pc' := 18) (L' := [some (.ref 59), some (.int x1), some (.int x2)]) (st' := [.int x2, .ref 64, .int x1]) rfl ?_
    refine Ev.rd (i := x2) (n := 30) (pc' := 19) (L' := [some (.ref 59), some (.int x1), some (.int x2)]) (st' := [.int ((M 64) (x2 : Int32).toNatClampNeg), .int x1]) H.1 rfl ?_
    replace H := H.2
    refine Ev.steps 1 (pc' := if ((M 64) (x2 : Int32).toNatClampNeg) = 0 then 26 else 22) (L' := [some (.ref 59), some (.int x1), some (.int x2)]) (st' := [.int x1]) rfl ?_
    refine Ev_ite (fun hc => ?_) (fun hc => ?_)
    · replace H := H.1 hc
      refine Ev.steps 5 (pc' := 4) (L' := [some (.ref 59), some (.int (x1 + 0)), some (.int (x2 + 1))]) (st' := []) rfl ?_
      exact Ev.weak [some (.ref 59), some (.int (x1 + 0)), some (.int (x2 + 1))] (gw_leb_le ⟨rfl, rfl, rfl, trivial⟩) H
    · replace H := H.2 hc
      refine Ev.steps 6 (pc' := 4) (L' := [some (.ref 59), some (.int (x1 + 1)), some (.int (x2 + 1))]) (st' := []) rfl ?_
      exact Ev.weak [some (.ref 59), some (.int (x1 + 1)), some (.int (x2 + 1))] (gw_leb_le ⟨rfl, rfl, rfl, trivial⟩) H

-- 310 java/lang/Math abs (I)I
theorem w310_0 {E : gw_N} {M : Mem} {res : Option Value × gw_H} {x0 : Int32} (H : ((0 ≤ x0 → res = (some (.int x0), hs E M)) ∧ (¬ 0 ≤ x0 → res = (some (.int (-x0)), hs E M)))) : Ev 1 310 0 [some (.int x0)] [] (hs E M) res := by
  refine Ev.steps 2 (pc' := if 0 ≤ x0 then 9 else 4) (L' := [some (.int x0)]) (st' := []) rfl ?_
  refine Ev_ite (fun hc => ?_) (fun hc => ?_)
  · replace H := H.1 hc
    refine Ev.steps 1 (pc' := 10) (L' := [some (.int x0)]) (st' := [.int x0]) rfl ?_
    subst H
    exact Ev.ret rfl
  · replace H := H.2 hc
    refine Ev.steps 3 (pc' := 10) (L' := [some (.int x0)]) (st' := [.int (-x0)]) rfl ?_
    subst H
    exact Ev.ret rfl

def F310 (M : Mem) (x0 : Int32) : Int32 := (if 0 ≤ x0 then x0 else (-x0))
theorem s310 {E : gw_N} {M : Mem} {x0 : Int32} : Rn 310 [.int x0] (hs E M) (some (.int (F310 M x0))) (hs E M) :=
  w310_0 (⟨fun h0 => gw_reteq (if_pos h0), fun h0 => gw_reteq (if_neg h0)⟩)
-- 311 java/lang/Math max (II)I
theorem w311_0 {E : gw_N} {M : Mem} {res : Option Value × gw_H} {x0 : Int32} {x1 : Int32} (H : ((x0 < x1 → res = (some (.int x1), hs E M)) ∧ (¬ x0 < x1 → res = (some (.int x0), hs E M)))) : Ev 1 311 0 [some (.int x0), some (.int x1)] [] (hs E M) res := by
  refine Ev.steps 3 (pc' := if x0 < x1 then 9 else 5) (L' := [some (.int x0), some (.int x1)]) (st' := []) rfl ?_
  refine Ev_ite (fun hc => ?_) (fun hc => ?_)
  · replace H := H.1 hc
    refine Ev.steps 1 (pc' := 10) (L' := [some (.int x0), some (.int x1)]) (st' := [.int x1]) rfl ?_
    subst H
    exact Ev.ret rfl
  · replace H := H.2 hc
    refine Ev.steps 2 (pc' := 10) (L' := [some (.int x0), some (.int x1)]) (st' := [.int x0]) rfl ?_
    subst H
    exact Ev.ret rfl

def F311 (M : Mem) (x0 : Int32) (x1 : Int32) : Int32 := (if x0 < x1 then x1 else x0)
theorem s311 {E : gw_N} {M : Mem} {x0 : Int32} {x1 : Int32} : Rn 311 [.int x0, .int x1] (hs E M) (some (.int (F311 M x0 x1))) (hs E M) :=
  w311_0 (⟨fun h0 => gw_reteq (if_pos h0), fun h0 => gw_reteq (if_neg h0)⟩)
-- 312 java/lang/Math min (II)I
theorem w312_0 {E : gw_N} {M : Mem} {res : Option Value × gw_H} {x0 : Int32} {x1 : Int32} (H : ((x1 < x0 → res = (some (.int x1), hs E M)) ∧ (¬ x1 < x0 → res = (some (.int x0), hs E M)))) : Ev 1 312 0 [some (.int x0), some (.int x1)] [] (hs E M) res := by
  refine Ev.steps 3 (pc' := if x1 < x0 then 9 else 5) (L' := [some (.int x0), some (.int x1)]) (st' := []) rfl ?_
  refine Ev_ite (fun hc => ?_) (fun hc => ?_)
  · replace H := H.1 hc
    refine Ev.steps 1 (pc' := 10) (L' := [some (.int x0), some (.int x1)]) (st' := [.int x1]) rfl ?_
    subst H
    exact Ev.ret rfl
  · replace H := H.2 hc
    refine Ev.steps 2 (pc' := 10) (L' := [some (.int x0), some (.int x1)]) (st' := [.int x0]) rfl ?_
    subst H
    exact Ev.ret rfl

def F312 (M : Mem) (x0 : Int32) (x1 : Int32) : Int32 := (if x1 < x0 then x1 else x0)
theorem s312 {E : gw_N} {M : Mem} {x0 : Int32} {x1 : Int32} : Rn 312 [.int x0, .int x1] (hs E M) (some (.int (F312 M x0 x1))) (hs E M) :=
  w312_0 (⟨fun h0 => gw_reteq (if_pos h0), fun h0 => gw_reteq (if_neg h0)⟩)
-- 313 java/util/Arrays fill ([II)V
theorem w313a23_0 {E : gw_N} {M : Mem} {res : Option Value × gw_H} {x1 : Int32} (H : Ev 1 313 5 [some (.ref 23), some (.int x1), some (.int 0), some (.int (Int32.ofNat 178))] [] (hs E M) res) : Ev 1 313 0 [some (.ref 23), some (.int x1), none, none] [] (hs E M) res := by
  refine Ev.steps 5 (pc' := 5) (L' := [some (.ref 23), some (.int x1), some (.int 0), some (.int (Int32.ofNat 178))]) (st' := []) rfl ?_
  exact Ev.weak [some (.ref 23), some (.int x1), some (.int 0), some (.int (Int32.ofNat 178))] (gw_leb_le ⟨rfl, rfl, rfl, rfl, trivial⟩) H

theorem w313a23_5 {E : gw_N} {M : Mem} {res : Option Value × gw_H} {x1 : Int32} {x2 : Int32} {x3 : Int32} (H : ((x3 ≤ x2 → res = (none, hs E M)) ∧ (¬ x3 ≤ x2 → (inb x2 178 ∧ Ev 1 313 5 [some (.ref 23), some (.int x1), some (.int (x2 + 1)), some (.int x3)] [] (hs E (up M 23 (upd (M 23) (x2 : Int32).toNatClampNeg x1))) res)))) : Ev 1 313 5 [some (.ref 23), some (.int x1), some (.int x2), some (.int x3)] [] (hs E M) res := by
  refine Ev.steps 3 (pc' := if x3 ≤ x2 then 20 else 10) (L' := [some (.ref 23), some (.int x1), some (.int x2), some (.int x3)]) (st' := []) rfl ?_
  refine Ev_ite (fun hc => ?_) (fun hc => ?_)
  · replace H := H.1 hc
    subst H
    exact Ev.ret rfl
  · replace H := H.2 hc
    refine Ev.steps 3 (pc' := 13) (L' := [some (.ref 23), some (.int x1), some (.int x2), some (.int x3)]) (st' := [.int x1, .int x2, .ref 23]) rfl ?_
    refine Ev.wr (a := 23) (g := (upd (M 23) (x2 : Int32).toNatClampNeg x1)) (i := x2) (n := 178) (pc' := 14) (L' := [some (.ref 23), some (.int x1), some (.int x2), some (.int x3)]) (st' := []) (by decide) H.1 rfl ?_
    replace H := H.2
    refine Ev.steps 2 (pc' := 5) (L' := [some (.ref 23), some (.int x1), some (.int (x2 + 1)), some (.int x3)]) (st' := []) rfl ?_
    exact Ev.weak [some (.ref 23), some (.int x1), some (.int (x2 + 1)), some (.int x3)] (gw_leb_le ⟨rfl, rfl, rfl, rfl, trivial⟩) H

-- 313 java/util/Arrays fill ([II)V
theorem w313a24_0 {E : gw_N} {M : Mem} {res : Option Value × gw_H} {x1 : Int32} (H : Ev 1 313 5 [some (.ref 24), some (.int x1), some (.int 0), some (.int (Int32.ofNat 178))] [] (hs E M) res) : Ev 1 313 0 [some (.ref 24), some (.int x1), none, none] [] (hs E M) res := by
  refine Ev.steps 5 (pc' := 5) (L' := [some (.ref 24), some (.int x1), some (.int 0), some (.int (Int32.ofNat 178))]) (st' := []) rfl ?_
  exact Ev.weak [some (.ref 24), some (.int x1), some (.int 0), some (.int (Int32.ofNat 178))] (gw_leb_le ⟨rfl, rfl, rfl, rfl, trivial⟩) H

theorem w313a24_5 {E : gw_N} {M : Mem} {res : Option Value × gw_H} {x1 : Int32} {x2 : Int32} {x3 : Int32} (H : ((x3 ≤ x2 → res = (none, hs E M)) ∧ (¬ x3 ≤ x2 → (inb x2 178 ∧ Ev 1 313 5 [some (.ref 24), some (.int x1), some (.int (x2 + 1)), some (.int x3)] [] (hs E (up M 24 (upd (M 24) (x2 : Int32).toNatClampNeg x1))) res)))) : Ev 1 313 5 [some (.ref 24), some (.int x1), some (.int x2), some (.int x3)] [] (hs E M) res := by
  refine Ev.steps 3 (pc' := if x3 ≤ x2 then 20 else 10) (L' := [some (.ref 24), some (.int x1), some (.int x2), some (.int x3)]) (st' := []) rfl ?_
  refine Ev_ite (fun hc => ?_) (fun hc => ?_)
  · replace H := H.1 hc
    subst H
    exact Ev.ret rfl
  · replace H := H.2 hc
    refine Ev.steps 3 (pc' := 13) (L' := [some (.ref 24), some (.int x1), some (.int x2), some (.int x3)]) (st' := [.int x1, .int x2, .ref 24]) rfl ?_
    refine Ev.wr (a := 24) (g := (upd (M 24) (x2 : Int32).toNatClampNeg x1)) (i := x2) (n := 178) (pc' := 14) (L' := [some (.ref 24), some (.int x1), some (.int x2), some (.int x3)]) (st' := []) (by decide) H.1 rfl ?_
    replace H := H.2
    refine Ev.steps 2 (pc' := 5) (L' := [some (.ref 24), some (.int x1), some (.int (x2 + 1)), some (.int x3)]) (st' := []) rfl ?_
    exact Ev.weak [some (.ref 24), some (.int x1), some (.int (x2 + 1)), some (.int x3)] (gw_leb_le ⟨rfl, rfl, rfl, rfl, trivial⟩) H

-- 313 java/util/Arrays fill ([II)V
theorem w313a25_0 {E : gw_N} {M : Mem} {res : Option Value × gw_H} {x1 : Int32} (H : Ev 1 313 5 [some (.ref 25), some (.int x1), some (.int 0), some (.int (Int32.ofNat 89))] [] (hs E M) res) : Ev 1 313 0 [some (.ref 25), some (.int x1), none, none] [] (hs E M) res := by
  refine Ev.steps 5 (pc' := 5) (L' := [some (.ref 25), some (.int x1), some (.int 0), some (.int (Int32.ofNat 89))]) (st' := []) rfl ?_
  exact Ev.weak [some (.ref 25), some (.int x1), some (.int 0), some (.int (Int32.ofNat 89))] (gw_leb_le ⟨rfl, rfl, rfl, rfl, trivial⟩) H

theorem w313a25_5 {E : gw_N} {M : Mem} {res : Option Value × gw_H} {x1 : Int32} {x2 : Int32} {x3 : Int32} (H : ((x3 ≤ x2 → res = (none, hs E M)) ∧ (¬ x3 ≤ x2 → (inb x2 89 ∧ Ev 1 313 5 [some (.ref 25), some (.int x1), some (.int (x2 + 1)), some (.int x3)] [] (hs E (up M 25 (upd (M 25) (x2 : Int32).toNatClampNeg x1))) res)))) : Ev 1 313 5 [some (.ref 25), some (.int x1), some (.int x2), some (.int x3)] [] (hs E M) res := by
  refine Ev.steps 3 (pc' := if x3 ≤ x2 then 20 else 10) (L' := [some (.ref 25), some (.int x1), some (.int x2), some (.int x3)]) (st' := []) rfl ?_
  refine Ev_ite (fun hc => ?_) (fun hc => ?_)
  · replace H := H.1 hc
    subst H
    exact Ev.ret rfl
  · replace H := H.2 hc
    refine Ev.steps 3 (pc' := 13) (L' := [some (.ref 25), some (.int x1), some (.int x2), some (.int x3)]) (st' := [.int x1, .int x2, .ref 25]) rfl ?_
    refine Ev.wr (a := 25) (g := (upd (M 25) (x2 : Int32).toNatClampNeg x1)) (i := x2) (n := 89) (pc' := 14) (L' := [some (.ref 25), some (.int x1), some (.int x2), some (.int x3)]) (st' := []) (by decide) H.1 rfl ?_
    replace H := H.2
    refine Ev.steps 2 (pc' := 5) (L' := [some (.ref 25), some (.int x1), some (.int (x2 + 1)), some (.int x3)]) (st' := []) rfl ?_
    exact Ev.weak [some (.ref 25), some (.int x1), some (.int (x2 + 1)), some (.int x3)] (gw_leb_le ⟨rfl, rfl, rfl, rfl, trivial⟩) H

-- 313 java/util/Arrays fill ([II)V
theorem w313a26_0 {E : gw_N} {M : Mem} {res : Option Value × gw_H} {x1 : Int32} (H : Ev 1 313 5 [some (.ref 26), some (.int x1), some (.int 0), some (.int (Int32.ofNat 178))] [] (hs E M) res) : Ev 1 313 0 [some (.ref 26), some (.int x1), none, none] [] (hs E M) res := by
  refine Ev.steps 5 (pc' := 5) (L' := [some (.ref 26), some (.int x1), some (.int 0), some (.int (Int32.ofNat 178))]) (st' := []) rfl ?_
  exact Ev.weak [some (.ref 26), some (.int x1), some (.int 0), some (.int (Int32.ofNat 178))] (gw_leb_le ⟨rfl, rfl, rfl, rfl, trivial⟩) H

theorem w313a26_5 {E : gw_N} {M : Mem} {res : Option Value × gw_H} {x1 : Int32} {x2 : Int32} {x3 : Int32} (H : ((x3 ≤ x2 → res = (none, hs E M)) ∧ (¬ x3 ≤ x2 → (inb x2 178 ∧ Ev 1 313 5 [some (.ref 26), some (.int x1), some (.int (x2 + 1)), some (.int x3)] [] (hs E (up M 26 (upd (M 26) (x2 : Int32).toNatClampNeg x1))) res)))) : Ev 1 313 5 [some (.ref 26), some (.int x1), some (.int x2), some (.int x3)] [] (hs E M) res := by
  refine Ev.steps 3 (pc' := if x3 ≤ x2 then 20 else 10) (L' := [some (.ref 26), some (.int x1), some (.int x2), some (.int x3)]) (st' := []) rfl ?_
  refine Ev_ite (fun hc => ?_) (fun hc => ?_)
  · replace H := H.1 hc
    subst H
    exact Ev.ret rfl
  · replace H := H.2 hc
    refine Ev.steps 3 (pc' := 13) (L' := [some (.ref 26), some (.int x1), some (.int x2), some (.int x3)]) (st' := [.int x1, .int x2, .ref 26]) rfl ?_
    refine Ev.wr (a := 26) (g := (upd (M 26) (x2 : Int32).toNatClampNeg x1)) (i := x2) (n := 178) (pc' := 14) (L' := [some (.ref 26), some (.int x1), some (.int x2), some (.int x3)]) (st' := []) (by decide) H.1 rfl ?_
    replace H := H.2
    refine Ev.steps 2 (pc' := 5) (L' := [some (.ref 26), some (.int x1), some (.int (x2 + 1)), some (.int x3)]) (st' := []) rfl ?_
    exact Ev.weak [some (.ref 26), some (.int x1), some (.int (x2 + 1)), some (.int x3)] (gw_leb_le ⟨rfl, rfl, rfl, rfl, trivial⟩) H

-- 313 java/util/Arrays fill ([II)V
theorem w313a27_0 {E : gw_N} {M : Mem} {res : Option Value × gw_H} {x1 : Int32} (H : Ev 1 313 5 [some (.ref 27), some (.int x1), some (.int 0), some (.int (Int32.ofNat 89))] [] (hs E M) res) : Ev 1 313 0 [some (.ref 27), some (.int x1), none, none] [] (hs E M) res := by
  refine Ev.steps 5 (pc' := 5) (L' := [some (.ref 27), some (.int x1), some (.int 0), some (.int (Int32.ofNat 89))]) (st' := []) rfl ?_
  exact Ev.weak [some (.ref 27), some (.int x1), some (.int 0), some (.int (Int32.ofNat 89))] (gw_leb_le ⟨rfl, rfl, rfl, rfl, trivial⟩) H

theorem w313a27_5 {E : gw_N} {M : Mem} {res : Option Value × gw_H} {x1 : Int32} {x2 : Int32} {x3 : Int32} (H : ((x3 ≤ x2 → res = (none, hs E M)) ∧ (¬ x3 ≤ x2 → (inb x2 89 ∧ Ev 1 313 5 [some (.ref 27), some (.int x1), some (.int (x2 + 1)), some (.int x3)] [] (hs E (up M 27 (upd (M 27) (x2 : Int32).toNatClampNeg x1))) res)))) : Ev 1 313 5 [some (.ref 27), some (.int x1), some (.int x2), some (.int x3)] [] (hs E M) res := by
  refine Ev.steps 3 (pc' := if x3 ≤ x2 then 20 else 10) (L' := [some (.ref 27), some (.int x1), some (.int x2), some (.int x3)]) (st' := []) rfl ?_
  refine Ev_ite (fun hc => ?_) (fun hc => ?_)
  · replace H := H.1 hc
    subst H
    exact Ev.ret rfl
  · replace H := H.2 hc
    refine Ev.steps 3 (pc' := 13) (L' := [some (.ref 27), some (.int x1), some (.int x2), some (.int x3)]) (st' := [.int x1, .int x2, .ref 27]) rfl ?_
    refine Ev.wr (a := 27) (g := (upd (M 27) (x2 : Int32).toNatClampNeg x1)) (i := x2) (n := 89) (pc' := 14) (L' := [some (.ref 27), some (.int x1), some (.int x2), some (.int x3)]) (st' := []) (by decide) H.1 rfl ?_
    replace H := H.2
    refine Ev.steps 2 (pc' := 5) (L' := [some (.ref 27), some (.int x1), some (.int (x2 + 1)), some (.int x3)]) (st' := []) rfl ?_
    exact Ev.weak [some (.ref 27), some (.int x1), some (.int (x2 + 1)), some (.int x3)] (gw_leb_le ⟨rfl, rfl, rfl, rfl, trivial⟩) H

-- 313 java/util/Arrays fill ([II)V
theorem w313a28_0 {E : gw_N} {M : Mem} {res : Option Value × gw_H} {x1 : Int32} (H : Ev 1 313 5 [some (.ref 28), some (.int x1), some (.int 0), some (.int (Int32.ofNat 30))] [] (hs E M) res) : Ev 1 313 0 [some (.ref 28), some (.int x1), none, none] [] (hs E M) res := by
  refine Ev.steps 5 (pc' := 5) (L' := [some (.ref 28), some (.int x1), some (.int 0), some (.int (Int32.ofNat 30))]) (st' := []) rfl ?_
  exact Ev.weak [some (.ref 28), some (.int x1), some (.int 0), some (.int (Int32.ofNat 30))] (gw_leb_le ⟨rfl, rfl, rfl, rfl, trivial⟩) H

theorem w313a28_5 {E : gw_N} {M : Mem} {res : Option Value × gw_H} {x1 : Int32} {x2 : Int32} {x3 : Int32} (H : ((x3 ≤ x2 → res = (none, hs E M)) ∧ (¬ x3 ≤ x2 → (inb x2 30 ∧ Ev 1 313 5 [some (.ref 28), some (.int x1), some (.int (x2 + 1)), some (.int x3)] [] (hs E (up M 28 (upd (M 28) (x2 : Int32).toNatClampNeg x1))) res)))) : Ev 1 313 5 [some (.ref 28), some (.int x1), some (.int x2), some (.int x3)] [] (hs E M) res := by
  refine Ev.steps 3 (pc' := if x3 ≤ x2 then 20 else 10) (L' := [some (.ref 28), some (.int x1), some (.int x2), some (.int x3)]) (st' := []) rfl ?_
  refine Ev_ite (fun hc => ?_) (fun hc => ?_)
  · replace H := H.1 hc
    subst H
    exact Ev.ret rfl
  · replace H := H.2 hc
    refine Ev.steps 3 (pc' := 13) (L' := [some (.ref 28), some (.int x1), some (.int x2), some (.int x3)]) (st' := [.int x1, .int x2, .ref 28]) rfl ?_
    refine Ev.wr (a := 28) (g := (upd (M 28) (x2 : Int32).toNatClampNeg x1)) (i := x2) (n := 30) (pc' := 14) (L' := [some (.ref 28), some (.int x1), some (.int x2), some (.int x3)]) (st' := []) (by decide) H.1 rfl ?_
    replace H := H.2
    refine Ev.steps 2 (pc' := 5) (L' := [some (.ref 28), some (.int x1), some (.int (x2 + 1)), some (.int x3)]) (st' := []) rfl ?_
    exact Ev.weak [some (.ref 28), some (.int x1), some (.int (x2 + 1)), some (.int x3)] (gw_leb_le ⟨rfl, rfl, rfl, rfl, trivial⟩) H

-- 313 java/util/Arrays fill ([II)V
theorem w313a29_0 {E : gw_N} {M : Mem} {res : Option Value × gw_H} {x1 : Int32} (H : Ev 1 313 5 [some (.ref 29), some (.int x1), some (.int 0), some (.int (Int32.ofNat 89))] [] (hs E M) res) : Ev 1 313 0 [some (.ref 29), some (.int x1), none, none] [] (hs E M) res := by
  refine Ev.steps 5 (pc' := 5) (L' := [some (.ref 29), some (.int x1), some (.int 0), some (.int (Int32.ofNat 89))]) (st' := []) rfl ?_
  exact Ev.weak [some (.ref 29), some (.int x1), some (.int 0), some (.int (Int32.ofNat 89))] (gw_leb_le ⟨rfl, rfl, rfl, rfl, trivial⟩) H

theorem w313a29_5 {E : gw_N} {M : Mem} {res : Option Value × gw_H} {x1 : Int32} {x2 : Int32} {x3 : Int32} (H : ((x3 ≤ x2 → res = (none, hs E M)) ∧ (¬ x3 ≤ x2 → (inb x2 89 ∧ Ev 1 313 5 [some (.ref 29), some (.int x1), some (.int (x2 + 1)), some (.int x3)] [] (hs E (up M 29 (upd (M 29) (x2 : Int32).toNatClampNeg x1))) res)))) : Ev 1 313 5 [some (.ref 29), some (.int x1), some (.int x2), some (.int x3)] [] (hs E M) res := by
  refine Ev.steps 3 (pc' := if x3 ≤ x2 then 20 else 10) (L' := [some (.ref 29), some (.int x1), some (.int x2), some (.int x3)]) (st' := []) rfl ?_
  refine Ev_ite (fun hc => ?_) (fun hc => ?_)
  · replace H := H.1 hc
    subst H
    exact Ev.ret rfl
  · replace H := H.2 hc
    refine Ev.steps 3 (pc' := 13) (L' := [some (.ref 29), some (.int x1), some (.int x2), some (.int x3)]) (st' := [.int x1, .int x2, .ref 29]) rfl ?_
    refine Ev.wr (a := 29) (g := (upd (M 29) (x2 : Int32).toNatClampNeg x1)) (i := x2) (n := 89) (pc' := 14) (L' := [some (.ref 29), some (.int x1), some (.int x2), some (.int x3)]) (st' := []) (by decide) H.1 rfl ?_
    replace H := H.2
    refine Ev.steps 2 (pc' := 5) (L' := [some (.ref 29), some (.int x1), some (.int (x2 + 1)), some (.int x3)]) (st' := []) rfl ?_
    exact Ev.weak [some (.ref 29), some (.int x1), some (.int (x2 + 1)), some (.int x3)] (gw_leb_le ⟨rfl, rfl, rfl, rfl, trivial⟩) H

-- 313 java/util/Arrays fill ([II)V
theorem w313a30_0 {E : gw_N} {M : Mem} {res : Option Value × gw_H} {x1 : Int32} (H : Ev 1 313 5 [some (.ref 30), some (.int x1), some (.int 0), some (.int (Int32.ofNat 89))] [] (hs E M) res) : Ev 1 313 0 [some (.ref 30), some (.int x1), none, none] [] (hs E M) res := by
  refine Ev.steps 5 (pc' := 5) (L' := [some (.ref 30), some (.int x1), some (.int 0), some (.int (Int32.ofNat 89))]) (st' := []) rfl ?_
  exact Ev.weak [some (.ref 30), some (.int x1), some (.int 0), some (.int (Int32.ofNat 89))] (gw_leb_le ⟨rfl, rfl, rfl, rfl, trivial⟩) H

theorem w313a30_5 {E : gw_N} {M : Mem} {res : Option Value × gw_H} {x1 : Int32} {x2 : Int32} {x3 : Int32} (H : ((x3 ≤ x2 → res = (none, hs E M)) ∧ (¬ x3 ≤ x2 → (inb x2 89 ∧ Ev 1 313 5 [some (.ref 30), some (.int x1), some (.int (x2 + 1)), some (.int x3)] [] (hs E (up M 30 (upd (M 30) (x2 : Int32).toNatClampNeg x1))) res)))) : Ev 1 313 5 [some (.ref 30), some (.int x1), some (.int x2), some (.int x3)] [] (hs E M) res := by
  refine Ev.steps 3 (pc' := if x3 ≤ x2 then 20 else 10) (L' := [some (.ref 30), some (.int x1), some (.int x2), some (.int x3)]) (st' := []) rfl ?_
  refine Ev_ite (fun hc => ?_) (fun hc => ?_)
  · replace H := H.1 hc
    subst H
    exact Ev.ret rfl
  · replace H := H.2 hc
    refine Ev.steps 3 (pc' := 13) (L' := [some (.ref 30), some (.int x1), some (.int x2), some (.int x3)]) (st' := [.int x1, .int x2, .ref 30]) rfl ?_
    refine Ev.wr (a := 30) (g := (upd (M 30) (x2 : Int32).toNatClampNeg x1)) (i := x2) (n := 89) (pc' := 14) (L' := [some (.ref 30), some (.int x1), some (.int x2), some (.int x3)]) (st' := []) (by decide) H.1 rfl ?_
    replace H := H.2
    refine Ev.steps 2 (pc' := 5) (L' := [some (.ref 30), some (.int x1), some (.int (x2 + 1)), some (.int x3)]) (st' := []) rfl ?_
    exact Ev.weak [some (.ref 30), some (.int x1), some (.int (x2 + 1)), some (.int x3)] (gw_leb_le ⟨rfl, rfl, rfl, rfl, trivial⟩) H

-- 313 java/util/Arrays fill ([II)V
theorem w313a33_0 {E : gw_N} {M : Mem} {res : Option Value × gw_H} {x1 : Int32} (H : Ev 1 313 5 [some (.ref 33), some (.int x1), some (.int 0), some (.int (Int32.ofNat 64))] [] (hs E M) res) : Ev 1 313 0 [some (.ref 33), some (.int x1), none, none] [] (hs E M) res := by
  refine Ev.steps 5 (pc' := 5) (L' := [some (.ref 33), some (.int x1), some (.int 0), some (.int (Int32.ofNat 64))]) (st' := []) rfl ?_
  exact Ev.weak [some (.ref 33), some (.int x1), some (.int 0), some (.int (Int32.ofNat 64))] (gw_leb_le ⟨rfl, rfl, rfl, rfl, trivial⟩) H

theorem w313a33_5 {E : gw_N} {M : Mem} {res : Option Value × gw_H} {x1 : Int32} {x2 : Int32} {x3 : Int32} (H : ((x3 ≤ x2 → res = (none, hs E M)) ∧ (¬ x3 ≤ x2 → (inb x2 64 ∧ Ev 1 313 5 [some (.ref 33), some (.int x1), some (.int (x2 + 1)), some (.int x3)] [] (hs E (up M 33 (upd (M 33) (x2 : Int32).toNatClampNeg x1))) res)))) : Ev 1 313 5 [some (.ref 33), some (.int x1), some (.int x2), some (.int x3)] [] (hs E M) res := by
  refine Ev.steps 3 (pc' := if x3 ≤ x2 then 20 else 10) (L' := [some (.ref 33), some (.int x1), some (.int x2), some (.int x3)]) (st' := []) rfl ?_
  refine Ev_ite (fun hc => ?_) (fun hc => ?_)
  · replace H := H.1 hc
    subst H
    exact Ev.ret rfl
  · replace H := H.2 hc
    refine Ev.steps 3 (pc' := 13) (L' := [some (.ref 33), some (.int x1), some (.int x2), some (.int x3)]) (st' := [.int x1, .int x2, .ref 33]) rfl ?_
    refine Ev.wr (a := 33) (g := (upd (M 33) (x2 : Int32).toNatClampNeg x1)) (i := x2) (n := 64) (pc' := 14) (L' := [some (.ref 33), some (.int x1), some (.int x2), some (.int x3)]) (st' := []) (by decide) H.1 rfl ?_
    replace H := H.2
    refine Ev.steps 2 (pc' := 5) (L' := [some (.ref 33), some (.int x1), some (.int (x2 + 1)), some (.int x3)]) (st' := []) rfl ?_
    exact Ev.weak [some (.ref 33), some (.int x1), some (.int (x2 + 1)), some (.int x3)] (gw_leb_le ⟨rfl, rfl, rfl, rfl, trivial⟩) H

-- 313 java/util/Arrays fill ([II)V
theorem w313a38_0 {E : gw_N} {M : Mem} {res : Option Value × gw_H} {x1 : Int32} (H : Ev 1 313 5 [some (.ref 38), some (.int x1), some (.int 0), some (.int (Int32.ofNat 10))] [] (hs E M) res) : Ev 1 313 0 [some (.ref 38), some (.int x1), none, none] [] (hs E M) res := by
  refine Ev.steps 5 (pc' := 5) (L' := [some (.ref 38), some (.int x1), some (.int 0), some (.int (Int32.ofNat 10))]) (st' := []) rfl ?_
  exact Ev.weak [some (.ref 38), some (.int x1), some (.int 0), some (.int (Int32.ofNat 10))] (gw_leb_le ⟨rfl, rfl, rfl, rfl, trivial⟩) H

theorem w313a38_5 {E : gw_N} {M : Mem} {res : Option Value × gw_H} {x1 : Int32} {x2 : Int32} {x3 : Int32} (H : ((x3 ≤ x2 → res = (none, hs E M)) ∧ (¬ x3 ≤ x2 → (inb x2 10 ∧ Ev 1 313 5 [some (.ref 38), some (.int x1), some (.int (x2 + 1)), some (.int x3)] [] (hs E (up M 38 (upd (M 38) (x2 : Int32).toNatClampNeg x1))) res)))) : Ev 1 313 5 [some (.ref 38), some (.int x1), some (.int x2), some (.int x3)] [] (hs E M) res := by
  refine Ev.steps 3 (pc' := if x3 ≤ x2 then 20 else 10) (L' := [some (.ref 38), some (.int x1), some (.int x2), some (.int x3)]) (st' := []) rfl ?_
  refine Ev_ite (fun hc => ?_) (fun hc => ?_)
  · replace H := H.1 hc
    subst H
    exact Ev.ret rfl
  · replace H := H.2 hc
    refine Ev.steps 3 (pc' := 13) (L' := [some (.ref 38), some (.int x1), some (.int x2), some (.int x3)]) (st' := [.int x1, .int x2, .ref 38]) rfl ?_
    refine Ev.wr (a := 38) (g := (upd (M 38) (x2 : Int32).toNatClampNeg x1)) (i := x2) (n := 10) (pc' := 14) (L' := [some (.ref 38), some (.int x1), some (.int x2), some (.int x3)]) (st' := []) (by decide) H.1 rfl ?_
    replace H := H.2
    refine Ev.steps 2 (pc' := 5) (L' := [some (.ref 38), some (.int x1), some (.int (x2 + 1)), some (.int x3)]) (st' := []) rfl ?_
    exact Ev.weak [some (.ref 38), some (.int x1), some (.int (x2 + 1)), some (.int x3)] (gw_leb_le ⟨rfl, rfl, rfl, rfl, trivial⟩) H

-- 313 java/util/Arrays fill ([II)V
theorem w313a45_0 {E : gw_N} {M : Mem} {res : Option Value × gw_H} {x1 : Int32} (H : Ev 1 313 5 [some (.ref 45), some (.int x1), some (.int 0), some (.int (Int32.ofNat 64))] [] (hs E M) res) : Ev 1 313 0 [some (.ref 45), some (.int x1), none, none] [] (hs E M) res := by
  refine Ev.steps 5 (pc' := 5) (L' := [some (.ref 45), some (.int x1), some (.int 0), some (.int (Int32.ofNat 64))]) (st' := []) rfl ?_
  exact Ev.weak [some (.ref 45), some (.int x1), some (.int 0), some (.int (Int32.ofNat 64))] (gw_leb_le ⟨rfl, rfl, rfl, rfl, trivial⟩) H

theorem w313a45_5 {E : gw_N} {M : Mem} {res : Option Value × gw_H} {x1 : Int32} {x2 : Int32} {x3 : Int32} (H : ((x3 ≤ x2 → res = (none, hs E M)) ∧ (¬ x3 ≤ x2 → (inb x2 64 ∧ Ev 1 313 5 [some (.ref 45), some (.int x1), some (.int (x2 + 1)), some (.int x3)] [] (hs E (up M 45 (upd (M 45) (x2 : Int32).toNatClampNeg x1))) res)))) : Ev 1 313 5 [some (.ref 45), some (.int x1), some (.int x2), some (.int x3)] [] (hs E M) res := by
  refine Ev.steps 3 (pc' := if x3 ≤ x2 then 20 else 10) (L' := [some (.ref 45), some (.int x1), some (.int x2), some (.int x3)]) (st' := []) rfl ?_
  refine Ev_ite (fun hc => ?_) (fun hc => ?_)
  · replace H := H.1 hc
    subst H
    exact Ev.ret rfl
  · replace H := H.2 hc
    refine Ev.steps 3 (pc' := 13) (L' := [some (.ref 45), some (.int x1), some (.int x2), some (.int x3)]) (st' := [.int x1, .int x2, .ref 45]) rfl ?_
    refine Ev.wr (a := 45) (g := (upd (M 45) (x2 : Int32).toNatClampNeg x1)) (i := x2) (n := 64) (pc' := 14) (L' := [some (.ref 45), some (.int x1), some (.int x2), some (.int x3)]) (st' := []) (by decide) H.1 rfl ?_
    replace H := H.2
    refine Ev.steps 2 (pc' := 5) (L' := [some (.ref 45), some (.int x1), some (.int (x2 + 1)), some (.int x3)]) (st' := []) rfl ?_
    exact Ev.weak [some (.ref 45), some (.int x1), some (.int (x2 + 1)), some (.int x3)] (gw_leb_le ⟨rfl, rfl, rfl, rfl, trivial⟩) H

-- 313 java/util/Arrays fill ([II)V
theorem w313a58_0 {E : gw_N} {M : Mem} {res : Option Value × gw_H} {x1 : Int32} (H : Ev 1 313 5 [some (.ref 58), some (.int x1), some (.int 0), some (.int (Int32.ofNat 256))] [] (hs E M) res) : Ev 1 313 0 [some (.ref 58), some (.int x1), none, none] [] (hs E M) res := by
  refine Ev.steps 5 (pc' := 5) (L' := [some (.ref 58), some (.int x1), some (.int 0), some (.int (Int32.ofNat 256))]) (st' := []) rfl ?_
  exact Ev.weak [some (.ref 58), some (.int x1), some (.int 0), some (.int (Int32.ofNat 256))] (gw_leb_le ⟨rfl, rfl, rfl, rfl, trivial⟩) H

theorem w313a58_5 {E : gw_N} {M : Mem} {res : Option Value × gw_H} {x1 : Int32} {x2 : Int32} {x3 : Int32} (H : ((x3 ≤ x2 → res = (none, hs E M)) ∧ (¬ x3 ≤ x2 → (inb x2 256 ∧ Ev 1 313 5 [some (.ref 58), some (.int x1), some (.int (x2 + 1)), some (.int x3)] [] (hs E (up M 58 (upd (M 58) (x2 : Int32).toNatClampNeg x1))) res)))) : Ev 1 313 5 [some (.ref 58), some (.int x1), some (.int x2), some (.int x3)] [] (hs E M) res := by
  refine Ev.steps 3 (pc' := if x3 ≤ x2 then 20 else 10) (L' := [some (.ref 58), some (.int x1), some (.int x2), some (.int x3)]) (st' := []) rfl ?_
  refine Ev_ite (fun hc => ?_) (fun hc => ?_)
  · replace H := H.1 hc
    subst H
    exact Ev.ret rfl
  · replace H := H.2 hc
    refine Ev.steps 3 (pc' := 13) (L' := [some (.ref 58), some (.int x1), some (.int x2), some (.int x3)]) (st' := [.int x1, .int x2, .ref 58]) rfl ?_
    refine Ev.wr (a := 58) (g := (upd (M 58) (x2 : Int32).toNatClampNeg x1)) (i := x2) (n := 256) (pc' := 14) (L' := [some (.ref 58), some (.int x1), some (.int x2), some (.int x3)]) (st' := []) (by decide) H.1 rfl ?_
    replace H := H.2
    refine Ev.steps 2 (pc' := 5) (L' := [some (.ref 58), some (.int x1), some (.int (x2 + 1)), some (.int x3)]) (st' := []) rfl ?_
    exact Ev.weak [some (.ref 58), some (.int x1), some (.int (x2 + 1)), some (.int x3)] (gw_leb_le ⟨rfl, rfl, rfl, rfl, trivial⟩) H

-- 7 GlassWires$Cells greatest ()I
theorem w7_0 {E : gw_N} {M : Mem} {res : Option Value × gw_H}  (H : Ev 2 7 4 [some (.ref 32), some (.int 0), some (.int 0)] [] (hs E M) res) : Ev 2 7 0 [some (.ref 32), none, none] [] (hs E M) res := by
  refine Ev.steps 4 (pc' := 4) (L' := [some (.ref 32), some (.int 0), some (.int 0)]) (st' := []) rfl ?_
  exact Ev.weak [some (.ref 32), some (.int 0), some (.int 0)] (gw_leb_le ⟨rfl, rfl, rfl, trivial⟩) H

theorem w7_4 {E : gw_N} {M : Mem} {res : Option Value × gw_H} {x1 : Int32} {x2 : Int32} (H : (((F40 M) ≤ x2 → res = (some (.int x1), hs E M)) ∧ (¬ (F40 M) ≤ x2 → (P5 M x2 ∧ (((F5 M x2) = 0 → Ev 2 7 4 [some (.ref 32), some (.int x1), some (.int (x2 + 1))] [] (hs E M) res) ∧ (¬ (F5 M x2) = 0 → (inb x2 64 ∧ Ev 2 7 4 [some (.ref 32), some (.int (F311 M x1 ((M 34) (x2 : Int32).toNatClampNeg))), some (.int (x2 + 1))] [] (hs E M) res))))))) : Ev 2 7 4 [some (.ref 32), some (.int x1), some (.int x2)] [] (hs E M) res := by
  refine Ev.steps 3 (pc' := 9) (L' := [some (.ref 32), some (.int x1), some (.int x2)]) (st' := [.ref 9, .int x2]) rfl ?_
  refine Ev.call (y := 40) (args := [.ref 9]) (rest := [.int x2]) (r := some (.int (F40 M))) rfl (s40) ?_
  show Ev 2 7 12 [some (.ref 32), some (.int x1), some (.int x2)] [.int (F40 M), .int x2] _ _
  refine Ev.steps 1 (pc' := if (F40 M) ≤ x2 then 40 else 15) (L' := [some (.ref 32), some (.int x1), some (.int x2)]) (st' := []) rfl ?_
  refine Ev_ite (fun hc => ?_) (fun hc => ?_)
  · replace H := H.1 hc
    refine Ev.steps 1 (pc' := 41) (L' := [some (.ref 32), some (.int x1), some (.int x2)]) (st' := [.int x1]) rfl ?_
    subst H
    exact Ev.ret rfl
  · replace H := H.2 hc
    refine Ev.steps 2 (pc' := 17) (L' := [some (.ref 32), some (.int x1), some (.int x2)]) (st' := [.int x2, .ref 32]) rfl ?_
    refine Ev.call (y := 5) (args := [.ref 32, .int x2]) (rest := []) (r := some (.int (F5 M x2))) rfl (s5 H.1) ?_
    replace H := H.2
    show Ev 2 7 20 [some (.ref 32), some (.int x1), some (.int x2)] [.int (F5 M x2)] _ _
    refine Ev.steps 1 (pc' := if (F5 M x2) = 0 then 34 else 23) (L' := [some (.ref 32), some (.int x1), some (.int x2)]) (st' := []) rfl ?_
    refine Ev_ite (fun hc => ?_) (fun hc => ?_)
    · replace H := H.1 hc
      refine Ev.steps 2 (pc' := 4) (L' := [some (.ref 32), some (.int x1), some (.int (x2 + 1))]) (st' := []) rfl ?_
      exact Ev.weak [some (.ref 32), some (.int x1), some (.int (x2 + 1))] (gw_leb_le ⟨rfl, rfl, rfl, trivial⟩) H
    · replace H := H.2 hc
      refine Ev.steps 4 (pc' := 29) (L' := [some (.ref 32), some (.int x1), some (.int x2)]) (st' := [.int x2, .ref 34, .int x1]) rfl ?_
      refine Ev.rd (i := x2) (n := 64) (pc' := 30) (L' := [some (.ref 32), some (.int x1), some (.int x2)]) (st' := [.int ((M 34) (x2 : Int32).toNatClampNeg), .int x1]) H.1 rfl ?_
      replace H := H.2
      refine Ev.call (y := 311) (args := [.int x1, .int ((M 34) (x2 : Int32).toNatClampNeg)]) (rest := []) (r := some (.int (F311 M x1 ((M 34) (x2 : Int32).toNatClampNeg)))) rfl (s311) ?_
      show Ev 2 7 33 [some (.ref 32), some (.int x1), some (.int x2)] [.int (F311 M x1 ((M 34) (x2 : Int32).toNatClampNeg))] _ _
      refine Ev.steps 3 (pc' := 4) (L' := [some (.ref 32), some (.int (F311 M x1 ((M 34) (x2 : Int32).toNatClampNeg))), some (.int (x2 + 1))]) (st' := []) rfl ?_
      exact Ev.weak [some (.ref 32), some (.int (F311 M x1 ((M 34) (x2 : Int32).toNatClampNeg))), some (.int (x2 + 1))] (gw_leb_le ⟨rfl, rfl, rfl, trivial⟩) H

-- 9 GlassWires$Glass clear ()V
theorem w9_0 {E : gw_N} {M : Mem} {res : Option Value × gw_H}  (H : (∃ (M1 : Mem), Rn 313 [.ref 45, .int 0] (hs E M) none (hs E M1) ∧ res = (none, hs E (up M1 44 (upd (M1 44) 9 0))))) : Ev 2 9 0 [some (.ref 44)] [] (hs E M) res := by
  refine Ev.steps 3 (pc' := 5) (L' := [some (.ref 44)]) (st' := [.int 0, .ref 45]) rfl ?_
  obtain ⟨M1, hr1, H⟩ := H
  refine Ev.call (y := 313) (args := [.ref 45, .int 0]) (rest := []) (r := none) rfl hr1 ?_
  show Ev 2 9 8 [some (.ref 44)] [] _ _
  refine Ev.steps 2 (pc' := 10) (L' := [some (.ref 44)]) (st' := [.int 0, .ref 44]) rfl ?_
  refine Ev.mem (a := 44) (g := (upd (M1 44) 9 0)) (pc' := 13) (L' := [some (.ref 44)]) (st' := []) (by decide) rfl ?_
  subst H
  exact Ev.ret rfl

-- 12 GlassWires$Glass layersInAll ()I
theorem w12_0 {E : gw_N} {M : Mem} {res : Option Value × gw_H}  (H : Ev 2 12 4 [some (.ref 44), some (.int 0), some (.int 0)] [] (hs E M) res) : Ev 2 12 0 [some (.ref 44), none, none] [] (hs E M) res := by
  refine Ev.steps 4 (pc' := 4) (L' := [some (.ref 44), some (.int 0), some (.int 0)]) (st' := []) rfl ?_
  exact Ev.weak [some (.ref 44), some (.int 0), some (.int 0)] (gw_leb_le ⟨rfl, rfl, rfl, trivial⟩) H

theorem w12_4 {E : gw_N} {M : Mem} {res : Option Value × gw_H} {x1 : Int32} {x2 : Int32} (H : (((F40 M) ≤ x2 → res = (some (.int x1), hs E M)) ∧ (¬ (F40 M) ≤ x2 → (inb x2 64 ∧ Ev 2 12 4 [some (.ref 44), some (.int (x1 + ((M 45) (x2 : Int32).toNatClampNeg))), some (.int (x2 + 1))] [] (hs E M) res)))) : Ev 2 12 4 [some (.ref 44), some (.int x1), some (.int x2)] [] (hs E M) res := by
  refine Ev.steps 3 (pc' := 9) (L' := [some (.ref 44), some (.int x1), some (.int x2)]) (st' := [.ref 9, .int x2]) rfl ?_
  refine Ev.call (y := 40) (args := [.ref 9]) (rest := [.int x2]) (r := some (.int (F40 M))) rfl (s40) ?_
  show Ev 2 12 12 [some (.ref 44), some (.int x1), some (.int x2)] [.int (F40 M), .int x2] _ _
  refine Ev.steps 1 (pc' := if (F40 M) ≤ x2 then 30 else 15) (L' := [some (.ref 44), some (.int x1), some (.int x2)]) (st' := []) rfl ?_
  refine Ev_ite (fun hc => ?_) (fun hc => ?_)
  · replace H := H.1 hc
    refine Ev.steps 1 (pc' := 31) (L' := [some (.ref 44), some (.int x1), some (.int x2)]) (st' := [.int x1]) rfl ?_
    subst H
    exact Ev.ret rfl
  · replace H := H.2 hc
    refine Ev.steps 4 (pc' := 21) (L' := [some (.ref 44), some (.int x1), some (.int x2)]) (st' := [.int x2, .ref 45, .int x1]) rfl ?_
    refine Ev.rd (i := x2) (n := 64) (pc' := 22) (L' := [some (.ref 44), some (.int x1), some (.int x2)]) (st' := [.int ((M 45) (x2 : Int32).toNatClampNeg), .int x1]) H.1 rfl ?_
    replace H := H.2
    refine Ev.steps 4 (pc' := 4) (L' := [some (.ref 44), some (.int (x1 + ((M 45) (x2 : Int32).toNatClampNeg))), some (.int (x2 + 1))]) (st' := []) rfl ?_
    exact Ev.weak [some (.ref 44), some (.int (x1 + ((M 45) (x2 : Int32).toNatClampNeg))), some (.int (x2 + 1))] (gw_leb_le ⟨rfl, rfl, rfl, trivial⟩) H

-- 16 GlassWires$Glass hasRoom (I)Z
theorem w16_0 {E : gw_N} {M : Mem} {res : Option Value × gw_H} {x1 : Int32} (H : Ev 2 16 2 [some (.ref 44), some (.int x1), some (.int 0)] [] (hs E M) res) : Ev 2 16 0 [some (.ref 44), some (.int x1), none] [] (hs E M) res := by
  refine Ev.steps 2 (pc' := 2) (L' := [some (.ref 44), some (.int x1), some (.int 0)]) (st' := []) rfl ?_
  exact Ev.weak [some (.ref 44), some (.int x1), some (.int 0)] (gw_leb_le ⟨rfl, rfl, rfl, trivial⟩) H

theorem w16_2 {E : gw_N} {M : Mem} {res : Option Value × gw_H} {x1 : Int32} {x2 : Int32} (H : (((F40 M) ≤ x2 → res = (some (.int 1), hs E M)) ∧ (¬ (F40 M) ≤ x2 → (P4 M x2 ∧ (((F4 M x2) = x1 → (inb x2 64 ∧ ((((M 45) (x2 : Int32).toNatClampNeg) < 12 → Ev 2 16 2 [some (.ref 44), some (.int x1), some (.int (x2 + 1))] [] (hs E M) res) ∧ (¬ ((M 45) (x2 : Int32).toNatClampNeg) < 12 → res = (some (.int 0), hs E M))))) ∧ (¬ (F4 M x2) = x1 → Ev 2 16 2 [some (.ref 44), some (.int x1), some (.int (x2 + 1))] [] (hs E M) res)))))) : Ev 2 16 2 [some (.ref 44), some (.int x1), some (.int x2)] [] (hs E M) res := by
  refine Ev.steps 3 (pc' := 7) (L' := [some (.ref 44), some (.int x1), some (.int x2)]) (st' := [.ref 9, .int x2]) rfl ?_
  refine Ev.call (y := 40) (args := [.ref 9]) (rest := [.int x2]) (r := some (.int (F40 M))) rfl (s40) ?_
  show Ev 2 16 10 [some (.ref 44), some (.int x1), some (.int x2)] [.int (F40 M), .int x2] _ _
  refine Ev.steps 1 (pc' := if (F40 M) ≤ x2 then 44 else 13) (L' := [some (.ref 44), some (.int x1), some (.int x2)]) (st' := []) rfl ?_
  refine Ev_ite (fun hc => ?_) (fun hc => ?_)
  · replace H := H.1 hc
    refine Ev.steps 1 (pc' := 45) (L' := [some (.ref 44), some (.int x1), some (.int x2)]) (st' := [.int 1]) rfl ?_
    subst H
    exact Ev.ret rfl
  · replace H := H.2 hc
    refine Ev.steps 3 (pc' := 18) (L' := [some (.ref 44), some (.int x1), some (.int x2)]) (st' := [.int x2, .ref 32]) rfl ?_
    refine Ev.call (y := 4) (args := [.ref 32, .int x2]) (rest := []) (r := some (.int (F4 M x2))) rfl (s4 H.1) ?_
    replace H := H.2
    show Ev 2 16 21 [some (.ref 44), some (.int x1), some (.int x2)] [.int (F4 M x2)] _ _
    refine Ev.steps 2 (pc' := if (F4 M x2) = x1 then 25 else 38) (L' := [some (.ref 44), some (.int x1), some (.int x2)]) (st' := []) rfl ?_
    refine Ev_ite (fun hc => ?_) (fun hc => ?_)
    · replace H := H.1 hc
      refine Ev.steps 3 (pc' := 30) (L' := [some (.ref 44), some (.int x1), some (.int x2)]) (st' := [.int x2, .ref 45]) rfl ?_
      refine Ev.rd (i := x2) (n := 64) (pc' := 31) (L' := [some (.ref 44), some (.int x1), some (.int x2)]) (st' := [.int ((M 45) (x2 : Int32).toNatClampNeg)]) H.1 rfl ?_
      replace H := H.2
      refine Ev.steps 2 (pc' := if ((M 45) (x2 : Int32).toNatClampNeg) < 12 then 38 else 36) (L' := [some (.ref 44), some (.int x1), some (.int x2)]) (st' := []) rfl ?_
      refine Ev_ite (fun hc => ?_) (fun hc => ?_)
      · replace H := H.1 hc
        refine Ev.steps 2 (pc' := 2) (L' := [some (.ref 44), some (.int x1), some (.int (x2 + 1))]) (st' := []) rfl ?_
        exact Ev.weak [some (.ref 44), some (.int x1), some (.int (x2 + 1))] (gw_leb_le ⟨rfl, rfl, rfl, trivial⟩) H
      · replace H := H.2 hc
        refine Ev.steps 1 (pc' := 37) (L' := [some (.ref 44), some (.int x1), some (.int x2)]) (st' := [.int 0]) rfl ?_
        subst H
        exact Ev.ret rfl
    · replace H := H.2 hc
      refine Ev.steps 2 (pc' := 2) (L' := [some (.ref 44), some (.int x1), some (.int (x2 + 1))]) (st' := []) rfl ?_
      exact Ev.weak [some (.ref 44), some (.int x1), some (.int (x2 + 1))] (gw_leb_le ⟨rfl, rfl, rfl, trivial⟩) H

-- 17 GlassWires$Glass pour (III)I
theorem w17_0 {E : gw_N} {M : Mem} {res : Option Value × gw_H} {x1 : Int32} {x2 : Int32} {x3 : Int32} (H : Ev 2 17 6 [some (.ref 44), some (.int x1), some (.int x2), some (.int x3), some (.int 0), some (.int 0), none] [] (hs E M) res) : Ev 2 17 0 [some (.ref 44), some (.int x1), some (.int x2), some (.int x3), none, none, none] [] (hs E M) res := by
  refine Ev.steps 4 (pc' := 6) (L' := [some (.ref 44), some (.int x1), some (.int x2), some (.int x3), some (.int 0), some (.int 0), none]) (st' := []) rfl ?_
  exact Ev.weak [some (.ref 44), some (.int x1), some (.int x2), some (.int x3), some (.int 0), some (.int 0), none] (gw_leb_le ⟨rfl, rfl, rfl, rfl, rfl, rfl, trivial⟩) H

theorem w17_6 {E : gw_N} {M : Mem} {res : Option Value × gw_H} {x1 : Int32} {x2 : Int32} {x3 : Int32} {x4 : Int32} {x5 : Int32} (H : (((F40 M) ≤ x5 → res = (some (.int x4), hs E M)) ∧ (¬ (F40 M) ≤ x5 → (P4 M x5 ∧ (((F4 M x5) = x1 → (inb x5 64 ∧ ((12 ≤ ((M 45) (x5 : Int32).toNatClampNeg) → Ev 2 17 6 [some (.ref 44), some (.int x1), some (.int x2), some (.int x3), some (.int x4), some (.int (x5 + 1)), none] [] (hs E M) res) ∧ (¬ 12 ≤ ((M 45) (x5 : Int32).toNatClampNeg) → (inb x5 64 ∧ (inb ((12 * x5) + ((M 45) (x5 : Int32).toNatClampNeg)) 768 ∧ (inb ((12 * x5) + ((M 45) (x5 : Int32).toNatClampNeg)) 768 ∧ (inb ((12 * x5) + ((M 45) (x5 : Int32).toNatClampNeg)) 768 ∧ (inb x5 64 ∧ (inb x5 64 ∧ Ev 2 17 6 [some (.ref 44), some (.int x1), some (.int x2), some (.int x3), some (.int (x4 + 1)), some (.int (x5 + 1)), none] [] (hs E (up (up (up (up M 46 (upd (M 46) (((12 * x5) + ((M 45) (x5 : Int32).toNatClampNeg)) : Int32).toNatClampNeg x2)) 47 (upd (M 47) (((12 * x5) + ((M 45) (x5 : Int32).toNatClampNeg)) : Int32).toNatClampNeg x3)) 48 (upd (M 48) (((12 * x5) + ((M 45) (x5 : Int32).toNatClampNeg)) : Int32).toNatClampNeg 0)) 45 (upd (M 45) (x5 : Int32).toNatClampNeg (((M 45) (x5 : Int32).toNatClampNeg) + 1)))) res)))))))))) ∧ (¬ (F4 M x5) = x1 → Ev 2 17 6 [some (.ref 44), some (.int x1), some (.int x2), some (.int x3), some (.int x4), some (.int (x5 + 1)), none] [] (hs E M) res)))))) : Ev 2 17 6 [some (.ref 44), some (.int x1), some (.int x2), some (.int x3), some (.int x4), some (.int x5), none] [] (hs E M) res := by
  refine Ev.steps 3 (pc' := 12) (L' := [some (.ref 44), some (.int x1), some (.int x2), some (.int x3), some (.int x4), some (.int x5), none]) (st' := [.ref 9, .int x5]) rfl ?_
  refine Ev.call (y := 40) (args := [.ref 9]) (rest := [.int x5]) (r := some (.int (F40 M))) rfl (s40) ?_
  show Ev 2 17 15 [some (.ref 44), some (.int x1), some (.int x2), some (.int x3), some (.int x4), some (.int x5), none] [.int (F40 M), .int x5] _ _
  refine Ev.steps 1 (pc' := if (F40 M) ≤ x5 then 102 else 18) (L' := [some (.ref 44), some (.int x1), some (.int x2), some (.int x3), some (.int x4), some (.int x5), none]) (st' := []) rfl ?_
  refine Ev_ite (fun hc => ?_) (fun hc => ?_)
  · replace H := H.1 hc
    refine Ev.steps 1 (pc' := 104) (L' := [some (.ref 44), some (.int x1), some (.int x2), some (.int x3), some (.int x4), some (.int x5), none]) (st' := [.int x4]) rfl ?_
    subst H
    exact Ev.ret rfl
  · replace H := H.2 hc
    refine Ev.steps 3 (pc' := 24) (L' := [some (.ref 44), some (.int x1), some (.int x2), some (.int x3), some (.int x4), some (.int x5), none]) (st' := [.int x5, .ref 32]) rfl ?_
    refine Ev.call (y := 4) (args := [.ref 32, .int x5]) (rest := []) (r := some (.int (F4 M x5))) rfl (s4 H.1) ?_
    replace H := H.2
    show Ev 2 17 27 [some (.ref 44), some (.int x1), some (.int x2), some (.int x3), some (.int x4), some (.int x5), none] [.int (F4 M x5)] _ _
    refine Ev.steps 2 (pc' := if (F4 M x5) = x1 then 31 else 96) (L' := [some (.ref 44), some (.int x1), some (.int x2), some (.int x3), some (.int x4), some (.int x5), none]) (st' := []) rfl ?_
    refine Ev_ite (fun hc => ?_) (fun hc => ?_)
    · replace H := H.1 hc
      refine Ev.steps 3 (pc' := 37) (L' := [some (.ref 44), some (.int x1), some (.int x2), some (.int x3), some (.int x4), some (.int x5), none]) (st' := [.int x5, .ref 45]) rfl ?_
      refine Ev.rd (i := x5) (n := 64) (pc' := 38) (L' := [some (.ref 44), some (.int x1), some (.int x2), some (.int x3), some (.int x4), some (.int x5), none]) (st' := [.int ((M 45) (x5 : Int32).toNatClampNeg)]) H.1 rfl ?_
      replace H := H.2
      refine Ev.steps 2 (pc' := if 12 ≤ ((M 45) (x5 : Int32).toNatClampNeg) then 96 else 43) (L' := [some (.ref 44), some (.int x1), some (.int x2), some (.int x3), some (.int x4), some (.int x5), none]) (st' := []) rfl ?_
      refine Ev_ite (fun hc => ?_) (fun hc => ?_)
      · replace H := H.1 hc
        refine Ev.steps 2 (pc' := 6) (L' := [some (.ref 44), some (.int x1), some (.int x2), some (.int x3), some (.int x4), some (.int (x5 + 1)), none]) (st' := []) rfl ?_
        exact Ev.weak [some (.ref 44), some (.int x1), some (.int x2), some (.int x3), some (.int x4), some (.int (x5 + 1)), none] (gw_leb_le ⟨rfl, rfl, rfl, rfl, rfl, rfl, trivial⟩) H
      · replace H := H.2 hc
        refine Ev.steps 6 (pc' := 54) (L' := [some (.ref 44), some (.int x1), some (.int x2), some (.int x3), some (.int x4), some (.int x5), none]) (st' := [.int x5, .ref 45, .int (12 * x5)]) rfl ?_
        refine Ev.rd (i := x5) (n := 64) (pc' := 55) (L' := [some (.ref 44), some (.int x1), some (.int x2), some (.int x3), some (.int x4), some (.int x5), none]) (st' := [.int ((M 45) (x5 : Int32).toNatClampNeg), .int (12 * x5)]) H.1 rfl ?_
        replace H := H.2
        refine Ev.steps 6 (pc' := 65) (L' := [some (.ref 44), some (.int x1), some (.int x2), some (.int x3), some (.int x4), some (.int x5), some (.int ((12 * x5) + ((M 45) (x5 : Int32).toNatClampNeg)))]) (st' := [.int x2, .int ((12 * x5) + ((M 45) (x5 : Int32).toNatClampNeg)), .ref 46]) rfl ?_
        refine Ev.wr (a := 46) (g := (upd (M 46) (((12 * x5) + ((M 45) (x5 : Int32).toNatClampNeg)) : Int32).toNatClampNeg x2)) (i := ((12 * x5) + ((M 45) (x5 : Int32).toNatClampNeg))) (n := 768) (pc' := 66) (L' := [some (.ref 44), some (.int x1), some (.int x2), some (.int x3), some (.int x4), some (.int x5), some (.int ((12 * x5) + ((M 45) (x5 : Int32).toNatClampNeg)))]) (st' := []) (by decide) H.1 rfl ?_
        replace H := H.2
        refine Ev.steps 4 (pc' := 73) (L' := [some (.ref 44), some (.int x1), some (.int x2), some (.int x3), some (.int x4), some (.int x5), some (.int ((12 * x5) + ((M 45) (x5 : Int32).toNatClampNeg)))]) (st' := [.int x3, .int ((12 * x5) + ((M 45) (x5 : Int32).toNatClampNeg)), .ref 47]) rfl ?_
        refine Ev.wr (a := 47) (g := (upd (M 47) (((12 * x5) + ((M 45) (x5 : Int32).toNatClampNeg)) : Int32).toNatClampNeg x3)) (i := ((12 * x5) + ((M 45) (x5 : Int32).toNatClampNeg))) (n := 768) (pc' := 74) (L' := [some (.ref 44), some (.int x1), some (.int x2), some (.int x3), some (.int x4), some (.int x5), some (.int ((12 * x5) + ((M 45) (x5 : Int32).toNatClampNeg)))]) (st' := []) (by decide) H.1 rfl ?_
        replace H := H.2
        refine Ev.steps 4 (pc' := 81) (L' := [some (.ref 44), some (.int x1), some (.int x2), some (.int x3), some (.int x4), some (.int x5), some (.int ((12 * x5) + ((M 45) (x5 : Int32).toNatClampNeg)))]) (st' := [.int 0, .int ((12 * x5) + ((M 45) (x5 : Int32).toNatClampNeg)), .ref 48]) rfl ?_
        refine Ev.wr (a := 48) (g := (upd (M 48) (((12 * x5) + ((M 45) (x5 : Int32).toNatClampNeg)) : Int32).toNatClampNeg 0)) (i := ((12 * x5) + ((M 45) (x5 : Int32).toNatClampNeg))) (n := 768) (pc' := 82) (L' := [some (.ref 44), some (.int x1), some (.int x2), some (.int x3), some (.int x4), some (.int x5), some (.int ((12 * x5) + ((M 45) (x5 : Int32).toNatClampNeg)))]) (st' := []) (by decide) H.1 rfl ?_
        replace H := H.2
        refine Ev.steps 4 (pc' := 89) (L' := [some (.ref 44), some (.int x1), some (.int x2), some (.int x3), some (.int x4), some (.int x5), some (.int ((12 * x5) + ((M 45) (x5 : Int32).toNatClampNeg)))]) (st' := [.int x5, .ref 45, .int x5, .ref 45]) rfl ?_
        refine Ev.rd (i := x5) (n := 64) (pc' := 90) (L' := [some (.ref 44), some (.int x1), some (.int x2), some (.int x3), some (.int x4), some (.int x5), some (.int ((12 * x5) + ((M 45) (x5 : Int32).toNatClampNeg)))]) (st' := [.int ((M 45) (x5 : Int32).toNatClampNeg), .int x5, .ref 45]) H.1 rfl ?_
        replace H := H.2
        refine Ev.steps 2 (pc' := 92) (L' := [some (.ref 44), some (.int x1), some (.int x2), some (.int x3), some (.int x4), some (.int x5), some (.int ((12 * x5) + ((M 45) (x5 : Int32).toNatClampNeg)))]) (st' := [.int (((M 45) (x5 : Int32).toNatClampNeg) + 1), .int x5, .ref 45]) rfl ?_
        refine Ev.wr (a := 45) (g := (upd (M 45) (x5 : Int32).toNatClampNeg (((M 45) (x5 : Int32).toNatClampNeg) + 1))) (i := x5) (n := 64) (pc' := 93) (L' := [some (.ref 44), some (.int x1), some (.int x2), some (.int x3), some (.int x4), some (.int x5), some (.int ((12 * x5) + ((M 45) (x5 : Int32).toNatClampNeg)))]) (st' := []) (by decide) H.1 rfl ?_
        replace H := H.2
        refine Ev.steps 3 (pc' := 6) (L' := [some (.ref 44), some (.int x1), some (.int x2), some (.int x3), some (.int (x4 + 1)), some (.int (x5 + 1)), some (.int ((12 * x5) + ((M 45) (x5 : Int32).toNatClampNeg)))]) (st' := []) rfl ?_
        exact Ev.weak [some (.ref 44), some (.int x1), some (.int x2), some (.int x3), some (.int (x4 + 1)), some (.int (x5 + 1)), none] (gw_leb_le ⟨rfl, rfl, rfl, rfl, rfl, rfl, trivial⟩) H
    · replace H := H.2 hc
      refine Ev.steps 2 (pc' := 6) (L' := [some (.ref 44), some (.int x1), some (.int x2), some (.int x3), some (.int x4), some (.int (x5 + 1)), none]) (st' := []) rfl ?_
      exact Ev.weak [some (.ref 44), some (.int x1), some (.int x2), some (.int x3), some (.int x4), some (.int (x5 + 1)), none] (gw_leb_le ⟨rfl, rfl, rfl, rfl, rfl, rfl, trivial⟩) H

-- 18 GlassWires$Glass takeOut (I)I
theorem w18_0 {E : gw_N} {M : Mem} {res : Option Value × gw_H} {x1 : Int32} (H : Ev 2 18 4 [some (.ref 44), some (.int x1), some (.int 0), some (.int 0)] [] (hs E M) res) : Ev 2 18 0 [some (.ref 44), some (.int x1), none, none] [] (hs E M) res := by
  refine Ev.steps 4 (pc' := 4) (L' := [some (.ref 44), some (.int x1), some (.int 0), some (.int 0)]) (st' := []) rfl ?_
  exact Ev.weak [some (.ref 44), some (.int x1), some (.int 0), some (.int 0)] (gw_leb_le ⟨rfl, rfl, rfl, rfl, trivial⟩) H

theorem w18_4 {E : gw_N} {M : Mem} {res : Option Value × gw_H} {x1 : Int32} {x2 : Int32} {x3 : Int32} (H : (((F40 M) ≤ x3 → res = (some (.int x2), hs E M)) ∧ (¬ (F40 M) ≤ x3 → (P4 M x3 ∧ (((F4 M x3) = x1 → (inb x3 64 ∧ (inb x3 64 ∧ Ev 2 18 4 [some (.ref 44), some (.int x1), some (.int (x2 + ((M 45) (x3 : Int32).toNatClampNeg))), some (.int (x3 + 1))] [] (hs E (up M 45 (upd (M 45) (x3 : Int32).toNatClampNeg 0))) res))) ∧ (¬ (F4 M x3) = x1 → Ev 2 18 4 [some (.ref 44), some (.int x1), some (.int x2), some (.int (x3 + 1))] [] (hs E M) res)))))) : Ev 2 18 4 [some (.ref 44), some (.int x1), some (.int x2), some (.int x3)] [] (hs E M) res := by
  refine Ev.steps 3 (pc' := 9) (L' := [some (.ref 44), some (.int x1), some (.int x2), some (.int x3)]) (st' := [.ref 9, .int x3]) rfl ?_
  refine Ev.call (y := 40) (args := [.ref 9]) (rest := [.int x3]) (r := some (.int (F40 M))) rfl (s40) ?_
  show Ev 2 18 12 [some (.ref 44), some (.int x1), some (.int x2), some (.int x3)] [.int (F40 M), .int x3] _ _
  refine Ev.steps 1 (pc' := if (F40 M) ≤ x3 then 49 else 15) (L' := [some (.ref 44), some (.int x1), some (.int x2), some (.int x3)]) (st' := []) rfl ?_
  refine Ev_ite (fun hc => ?_) (fun hc => ?_)
  · replace H := H.1 hc
    refine Ev.steps 1 (pc' := 50) (L' := [some (.ref 44), some (.int x1), some (.int x2), some (.int x3)]) (st' := [.int x2]) rfl ?_
    subst H
    exact Ev.ret rfl
  · replace H := H.2 hc
    refine Ev.steps 3 (pc' := 20) (L' := [some (.ref 44), some (.int x1), some (.int x2), some (.int x3)]) (st' := [.int x3, .ref 32]) rfl ?_
    refine Ev.call (y := 4) (args := [.ref 32, .int x3]) (rest := []) (r := some (.int (F4 M x3))) rfl (s4 H.1) ?_
    replace H := H.2
    show Ev 2 18 23 [some (.ref 44), some (.int x1), some (.int x2), some (.int x3)] [.int (F4 M x3)] _ _
    refine Ev.steps 2 (pc' := if (F4 M x3) = x1 then 27 else 43) (L' := [some (.ref 44), some (.int x1), some (.int x2), some (.int x3)]) (st' := []) rfl ?_
    refine Ev_ite (fun hc => ?_) (fun hc => ?_)
    · replace H := H.1 hc
      refine Ev.steps 4 (pc' := 33) (L' := [some (.ref 44), some (.int x1), some (.int x2), some (.int x3)]) (st' := [.int x3, .ref 45, .int x2]) rfl ?_
      refine Ev.rd (i := x3) (n := 64) (pc' := 34) (L' := [some (.ref 44), some (.int x1), some (.int x2), some (.int x3)]) (st' := [.int ((M 45) (x3 : Int32).toNatClampNeg), .int x2]) H.1 rfl ?_
      replace H := H.2
      refine Ev.steps 6 (pc' := 42) (L' := [some (.ref 44), some (.int x1), some (.int (x2 + ((M 45) (x3 : Int32).toNatClampNeg))), some (.int x3)]) (st' := [.int 0, .int x3, .ref 45]) rfl ?_
      refine Ev.wr (a := 45) (g := (upd (M 45) (x3 : Int32).toNatClampNeg 0)) (i := x3) (n := 64) (pc' := 43) (L' := [some (.ref 44), some (.int x1), some (.int (x2 + ((M 45) (x3 : Int32).toNatClampNeg))), some (.int x3)]) (st' := []) (by decide) H.1 rfl ?_
      replace H := H.2
      refine Ev.steps 2 (pc' := 4) (L' := [some (.ref 44), some (.int x1), some (.int (x2 + ((M 45) (x3 : Int32).toNatClampNeg))), some (.int (x3 + 1))]) (st' := []) rfl ?_
      exact Ev.weak [some (.ref 44), some (.int x1), some (.int (x2 + ((M 45) (x3 : Int32).toNatClampNeg))), some (.int (x3 + 1))] (gw_leb_le ⟨rfl, rfl, rfl, rfl, trivial⟩) H
    · replace H := H.2 hc
      refine Ev.steps 2 (pc' := 4) (L' := [some (.ref 44), some (.int x1), some (.int x2), some (.int (x3 + 1))]) (st' := []) rfl ?_
      exact Ev.weak [some (.ref 44), some (.int x1), some (.int x2), some (.int (x3 + 1))] (gw_leb_le ⟨rfl, rfl, rfl, rfl, trivial⟩) H

-- 20 GlassWires$Glass ripen (II)Z
theorem w20_0 {E : gw_N} {M : Mem} {res : Option Value × gw_H} {x1 : Int32} {x2 : Int32} (H : (inb x1 768 ∧ ((((M 48) (x1 : Int32).toNatClampNeg) = 0 → (inb x1 768 ∧ (P99 M ((M 46) (x1 : Int32).toNatClampNeg) ∧ (((F99 M ((M 46) (x1 : Int32).toNatClampNeg)) ≤ x2 → (inb x1 768 ∧ (inb x1 768 ∧ (inb x1 768 ∧ (P102 (up M 48 (upd (M 48) (x1 : Int32).toNatClampNeg 1)) ((M 46) (x1 : Int32).toNatClampNeg) ((M 47) (x1 : Int32).toNatClampNeg) ∧ (inb x1 768 ∧ res = (some (.int 1), hs E (up (up M 48 (upd (M 48) (x1 : Int32).toNatClampNeg 1)) 47 (upd (M 47) (x1 : Int32).toNatClampNeg (F102 (up M 48 (upd (M 48) (x1 : Int32).toNatClampNeg 1)) ((M 46) (x1 : Int32).toNatClampNeg) ((M 47) (x1 : Int32).toNatClampNeg))))))))))) ∧ (¬ (F99 M ((M 46) (x1 : Int32).toNatClampNeg)) ≤ x2 → res = (some (.int 0), hs E M)))))) ∧ (¬ ((M 48) (x1 : Int32).toNatClampNeg) = 0 → res = (some (.int 0), hs E M))))) : Ev 2 20 0 [some (.ref 44), some (.int x1), some (.int x2)] [] (hs E M) res := by
  refine Ev.steps 3 (pc' := 5) (L' := [some (.ref 44), some (.int x1), some (.int x2)]) (st' := [.int x1, .ref 48]) rfl ?_
  refine Ev.rd (i := x1) (n := 768) (pc' := 6) (L' := [some (.ref 44), some (.int x1), some (.int x2)]) (st' := [.int ((M 48) (x1 : Int32).toNatClampNeg)]) H.1 rfl ?_
  replace H := H.2
  refine Ev.steps 1 (pc' := if ((M 48) (x1 : Int32).toNatClampNeg) = 0 then 9 else 26) (L' := [some (.ref 44), some (.int x1), some (.int x2)]) (st' := []) rfl ?_
  refine Ev_ite (fun hc => ?_) (fun hc => ?_)
  · replace H := H.1 hc
    refine Ev.steps 5 (pc' := 18) (L' := [some (.ref 44), some (.int x1), some (.int x2)]) (st' := [.int x1, .ref 46, .ref 40]) rfl ?_
    refine Ev.rd (i := x1) (n := 768) (pc' := 19) (L' := [some (.ref 44), some (.int x1), some (.int x2)]) (st' := [.int ((M 46) (x1 : Int32).toNatClampNeg), .ref 40]) H.1 rfl ?_
    replace H := H.2
    refine Ev.call (y := 99) (args := [.ref 40, .int ((M 46) (x1 : Int32).toNatClampNeg)]) (rest := []) (r := some (.int (F99 M ((M 46) (x1 : Int32).toNatClampNeg)))) rfl (s99 H.1) ?_
    replace H := H.2
    show Ev 2 20 22 [some (.ref 44), some (.int x1), some (.int x2)] [.int (F99 M ((M 46) (x1 : Int32).toNatClampNeg))] _ _
    refine Ev.steps 2 (pc' := if (F99 M ((M 46) (x1 : Int32).toNatClampNeg)) ≤ x2 then 28 else 26) (L' := [some (.ref 44), some (.int x1), some (.int x2)]) (st' := []) rfl ?_
    refine Ev_ite (fun hc => ?_) (fun hc => ?_)
    · replace H := H.1 hc
      refine Ev.steps 4 (pc' := 34) (L' := [some (.ref 44), some (.int x1), some (.int x2)]) (st' := [.int 1, .int x1, .ref 48]) rfl ?_
      refine Ev.wr (a := 48) (g := (upd (M 48) (x1 : Int32).toNatClampNeg 1)) (i := x1) (n := 768) (pc' := 35) (L' := [some (.ref 44), some (.int x1), some (.int x2)]) (st' := []) (by decide) H.1 rfl ?_
      replace H := H.2
      refine Ev.steps 8 (pc' := 49) (L' := [some (.ref 44), some (.int x1), some (.int x2)]) (st' := [.int x1, .ref 46, .ref 40, .int x1, .ref 47]) rfl ?_
      refine Ev.rd (i := x1) (n := 768) (pc' := 50) (L' := [some (.ref 44), some (.int x1), some (.int x2)]) (st' := [.int ((M 46) (x1 : Int32).toNatClampNeg), .ref 40, .int x1, .ref 47]) H.1 rfl ?_
      replace H := H.2
      refine Ev.steps 3 (pc' := 55) (L' := [some (.ref 44), some (.int x1), some (.int x2)]) (st' := [.int x1, .ref 47, .int ((M 46) (x1 : Int32).toNatClampNeg), .ref 40, .int x1, .ref 47]) rfl ?_
      refine Ev.rd (i := x1) (n := 768) (pc' := 56) (L' := [some (.ref 44), some (.int x1), some (.int x2)]) (st' := [.int ((M 47) (x1 : Int32).toNatClampNeg), .int ((M 46) (x1 : Int32).toNatClampNeg), .ref 40, .int x1, .ref 47]) H.1 rfl ?_
      replace H := H.2
      refine Ev.call (y := 102) (args := [.ref 40, .int ((M 46) (x1 : Int32).toNatClampNeg), .int ((M 47) (x1 : Int32).toNatClampNeg)]) (rest := [.int x1, .ref 47]) (r := some (.int (F102 (up M 48 (upd (M 48) (x1 : Int32).toNatClampNeg 1)) ((M 46) (x1 : Int32).toNatClampNeg) ((M 47) (x1 : Int32).toNatClampNeg)))) rfl (s102 H.1) ?_
      replace H := H.2
      show Ev 2 20 59 [some (.ref 44), some (.int x1), some (.int x2)] [.int (F102 (up M 48 (upd (M 48) (x1 : Int32).toNatClampNeg 1)) ((M 46) (x1 : Int32).toNatClampNeg) ((M 47) (x1 : Int32).toNatClampNeg)), .int x1, .ref 47] _ _
      refine Ev.wr (a := 47) (g := (upd (M 47) (x1 : Int32).toNatClampNeg (F102 (up M 48 (upd (M 48) (x1 : Int32).toNatClampNeg 1)) ((M 46) (x1 : Int32).toNatClampNeg) ((M 47) (x1 : Int32).toNatClampNeg)))) (i := x1) (n := 768) (pc' := 60) (L' := [some (.ref 44), some (.int x1), some (.int x2)]) (st' := []) (by decide) H.1 rfl ?_
      replace H := H.2
      refine Ev.steps 1 (pc' := 61) (L' := [some (.ref 44), some (.int x1), some (.int x2)]) (st' := [.int 1]) rfl ?_
      subst H
      exact Ev.ret rfl
    · replace H := H.2 hc
      refine Ev.steps 1 (pc' := 27) (L' := [some (.ref 44), some (.int x1), some (.int x2)]) (st' := [.int 0]) rfl ?_
      subst H
      exact Ev.ret rfl
  · replace H := H.2 hc
    refine Ev.steps 1 (pc' := 27) (L' := [some (.ref 44), some (.int x1), some (.int x2)]) (st' := [.int 0]) rfl ?_
    subst H
    exact Ev.ret rfl

-- 24 GlassWires$Glass takeFromUpmost (II)I
theorem w24_0 {E : gw_N} {M : Mem} {res : Option Value × gw_H} {x1 : Int32} {x2 : Int32} (H : (P15 M x1 ∧ (((F15 M x1) = (-1) → res = (some (.int 0), hs E M)) ∧ (¬ (F15 M x1) = (-1) → (inb (F15 M x1) 768 ∧ (inb (F15 M x1) 768 ∧ (inb (F15 M x1) 768 ∧ (inb (F15 M x1) 768 ∧ ((((upd (M 47) ((F15 M x1) : Int32).toNatClampNeg (((M 47) ((F15 M x1) : Int32).toNatClampNeg) - (F312 M x2 ((M 47) ((F15 M x1) : Int32).toNatClampNeg)))) ((F15 M x1) : Int32).toNatClampNeg) = 0 → (inb x1 64 ∧ (inb x1 64 ∧ res = (some (.int (F312 M x2 ((M 47) ((F15 M x1) : Int32).toNatClampNeg))), hs E (up (up M 47 (upd (M 47) ((F15 M x1) : Int32).toNatClampNeg (((M 47) ((F15 M x1) : Int32).toNatClampNeg) - (F312 M x2 ((M 47) ((F15 M x1) : Int32).toNatClampNeg))))) 45 (upd (M 45) (x1 : Int32).toNatClampNeg (((M 45) (x1 : Int32).toNatClampNeg) - 1))))))) ∧ (¬ ((upd (M 47) ((F15 M x1) : Int32).toNatClampNeg (((M 47) ((F15 M x1) : Int32).toNatClampNeg) - (F312 M x2 ((M 47) ((F15 M x1) : Int32).toNatClampNeg)))) ((F15 M x1) : Int32).toNatClampNeg) = 0 → res = (some (.int (F312 M x2 ((M 47) ((F15 M x1) : Int32).toNatClampNeg))), hs E (up M 47 (upd (M 47) ((F15 M x1) : Int32).toNatClampNeg (((M 47) ((F15 M x1) : Int32).toNatClampNeg) - (F312 M x2 ((M 47) ((F15 M x1) : Int32).toNatClampNeg)))))))))))))))) : Ev 2 24 0 [some (.ref 44), some (.int x1), some (.int x2), none, none] [] (hs E M) res := by
  refine Ev.steps 2 (pc' := 2) (L' := [some (.ref 44), some (.int x1), some (.int x2), none, none]) (st' := [.int x1, .ref 44]) rfl ?_
  refine Ev.call (y := 15) (args := [.ref 44, .int x1]) (rest := []) (r := some (.int (F15 M x1))) rfl (s15 H.1) ?_
  replace H := H.2
  show Ev 2 24 5 [some (.ref 44), some (.int x1), some (.int x2), none, none] [.int (F15 M x1)] _ _
  refine Ev.steps 4 (pc' := if (F15 M x1) = (-1) then 11 else 13) (L' := [some (.ref 44), some (.int x1), some (.int x2), some (.int (F15 M x1)), none]) (st' := []) rfl ?_
  refine Ev_ite (fun hc => ?_) (fun hc => ?_)
  · replace H := H.1 hc
    refine Ev.steps 1 (pc' := 12) (L' := [some (.ref 44), some (.int x1), some (.int x2), some (.int (F15 M x1)), none]) (st' := [.int 0]) rfl ?_
    subst H
    exact Ev.ret rfl
  · replace H := H.2 hc
    refine Ev.steps 4 (pc' := 19) (L' := [some (.ref 44), some (.int x1), some (.int x2), some (.int (F15 M x1)), none]) (st' := [.int (F15 M x1), .ref 47, .int x2]) rfl ?_
    refine Ev.rd (i := (F15 M x1)) (n := 768) (pc' := 20) (L' := [some (.ref 44), some (.int x1), some (.int x2), some (.int (F15 M x1)), none]) (st' := [.int ((M 47) ((F15 M x1) : Int32).toNatClampNeg), .int x2]) H.1 rfl ?_
    replace H := H.2
    refine Ev.call (y := 312) (args := [.int x2, .int ((M 47) ((F15 M x1) : Int32).toNatClampNeg)]) (rest := []) (r := some (.int (F312 M x2 ((M 47) ((F15 M x1) : Int32).toNatClampNeg)))) rfl (s312) ?_
    show Ev 2 24 23 [some (.ref 44), some (.int x1), some (.int x2), some (.int (F15 M x1)), none] [.int (F312 M x2 ((M 47) ((F15 M x1) : Int32).toNatClampNeg))] _ _
    refine Ev.steps 5 (pc' := 31) (L' := [some (.ref 44), some (.int x1), some (.int x2), some (.int (F15 M x1)), some (.int (F312 M x2 ((M 47) ((F15 M x1) : Int32).toNatClampNeg)))]) (st' := [.int (F15 M x1), .ref 47, .int (F15 M x1), .ref 47]) rfl ?_
    refine Ev.rd (i := (F15 M x1)) (n := 768) (pc' := 32) (L' := [some (.ref 44), some (.int x1), some (.int x2), some (.int (F15 M x1)), some (.int (F312 M x2 ((M 47) ((F15 M x1) : Int32).toNatClampNeg)))]) (st' := [.int ((M 47) ((F15 M x1) : Int32).toNatClampNeg), .int (F15 M x1), .ref 47]) H.1 rfl ?_
    replace H := H.2
    refine Ev.steps 2 (pc' := 35) (L' := [some (.ref 44), some (.int x1), some (.int x2), some (.int (F15 M x1)), some (.int (F312 M x2 ((M 47) ((F15 M x1) : Int32).toNatClampNeg)))]) (st' := [.int (((M 47) ((F15 M x1) : Int32).toNatClampNeg) - (F312 M x2 ((M 47) ((F15 M x1) : Int32).toNatClampNeg))), .int (F15 M x1), .ref 47]) rfl ?_
    refine Ev.wr (a := 47) (g := (upd (M 47) ((F15 M x1) : Int32).toNatClampNeg (((M 47) ((F15 M x1) : Int32).toNatClampNeg) - (F312 M x2 ((M 47) ((F15 M x1) : Int32).toNatClampNeg))))) (i := (F15 M x1)) (n := 768) (pc' := 36) (L' := [some (.ref 44), some (.int x1), some (.int x2), some (.int (F15 M x1)), some (.int (F312 M x2 ((M 47) ((F15 M x1) : Int32).toNatClampNeg)))]) (st' := []) (by decide) H.1 rfl ?_
    replace H := H.2
    refine Ev.steps 3 (pc' := 41) (L' := [some (.ref 44), some (.int x1), some (.int x2), some (.int (F15 M x1)), some (.int (F312 M x2 ((M 47) ((F15 M x1) : Int32).toNatClampNeg)))]) (st' := [.int (F15 M x1), .ref 47]) rfl ?_
    refine Ev.rd (i := (F15 M x1)) (n := 768) (pc' := 42) (L' := [some (.ref 44), some (.int x1), some (.int x2), some (.int (F15 M x1)), some (.int (F312 M x2 ((M 47) ((F15 M x1) : Int32).toNatClampNeg)))]) (st' := [.int ((upd (M 47) ((F15 M x1) : Int32).toNatClampNeg (((M 47) ((F15 M x1) : Int32).toNatClampNeg) - (F312 M x2 ((M 47) ((F15 M x1) : Int32).toNatClampNeg)))) ((F15 M x1) : Int32).toNatClampNeg)]) H.1 rfl ?_
    replace H := H.2
    refine Ev.steps 1 (pc' := if ((upd (M 47) ((F15 M x1) : Int32).toNatClampNeg (((M 47) ((F15 M x1) : Int32).toNatClampNeg) - (F312 M x2 ((M 47) ((F15 M x1) : Int32).toNatClampNeg)))) ((F15 M x1) : Int32).toNatClampNeg) = 0 then 45 else 55) (L' := [some (.ref 44), some (.int x1), some (.int x2), some (.int (F15 M x1)), some (.int (F312 M x2 ((M 47) ((F15 M x1) : Int32).toNatClampNeg)))]) (st' := []) rfl ?_
    refine Ev_ite (fun hc => ?_) (fun hc => ?_)
    · replace H := H.1 hc
      refine Ev.steps 4 (pc' := 51) (L' := [some (.ref 44), some (.int x1), some (.int x2), some (.int (F15 M x1)), some (.int (F312 M x2 ((M 47) ((F15 M x1) : Int32).toNatClampNeg)))]) (st' := [.int x1, .ref 45, .int x1, .ref 45]) rfl ?_
      refine Ev.rd (i := x1) (n := 64) (pc' := 52) (L' := [some (.ref 44), some (.int x1), some (.int x2), some (.int (F15 M x1)), some (.int (F312 M x2 ((M 47) ((F15 M x1) : Int32).toNatClampNeg)))]) (st' := [.int ((M 45) (x1 : Int32).toNatClampNeg), .int x1, .ref 45]) H.1 rfl ?_
      replace H := H.2
      refine Ev.steps 2 (pc' := 54) (L' := [some (.ref 44), some (.int x1), some (.int x2), some (.int (F15 M x1)), some (.int (F312 M x2 ((M 47) ((F15 M x1) : Int32).toNatClampNeg)))]) (st' := [.int (((M 45) (x1 : Int32).toNatClampNeg) - 1), .int x1, .ref 45]) rfl ?_
      refine Ev.wr (a := 45) (g := (upd (M 45) (x1 : Int32).toNatClampNeg (((M 45) (x1 : Int32).toNatClampNeg) - 1))) (i := x1) (n := 64) (pc' := 55) (L' := [some (.ref 44), some (.int x1), some (.int x2), some (.int (F15 M x1)), some (.int (F312 M x2 ((M 47) ((F15 M x1) : Int32).toNatClampNeg)))]) (st' := []) (by decide) H.1 rfl ?_
      replace H := H.2
      refine Ev.steps 1 (pc' := 57) (L' := [some (.ref 44), some (.int x1), some (.int x2), some (.int (F15 M x1)), some (.int (F312 M x2 ((M 47) ((F15 M x1) : Int32).toNatClampNeg)))]) (st' := [.int (F312 M x2 ((M 47) ((F15 M x1) : Int32).toNatClampNeg))]) rfl ?_
      subst H
      exact Ev.ret rfl
    · replace H := H.2 hc
      refine Ev.steps 1 (pc' := 57) (L' := [some (.ref 44), some (.int x1), some (.int x2), some (.int (F15 M x1)), some (.int (F312 M x2 ((M 47) ((F15 M x1) : Int32).toNatClampNeg)))]) (st' := [.int (F312 M x2 ((M 47) ((F15 M x1) : Int32).toNatClampNeg))]) rfl ?_
      subst H
      exact Ev.ret rfl

-- 26 GlassWires$Glass layersThatAre (I)I
theorem w26_0 {E : gw_N} {M : Mem} {res : Option Value × gw_H} {x1 : Int32} (H : Ev 2 26 4 [some (.ref 44), some (.int x1), some (.int 0), some (.int 0), none] [] (hs E M) res) : Ev 2 26 0 [some (.ref 44), some (.int x1), none, none, none] [] (hs E M) res := by
  refine Ev.steps 4 (pc' := 4) (L' := [some (.ref 44), some (.int x1), some (.int 0), some (.int 0), none]) (st' := []) rfl ?_
  exact Ev.weak [some (.ref 44), some (.int x1), some (.int 0), some (.int 0), none] (gw_leb_le ⟨rfl, rfl, rfl, rfl, trivial⟩) H

theorem w26_4 {E : gw_N} {M : Mem} {res : Option Value × gw_H} {x1 : Int32} {x2 : Int32} {x3 : Int32} (H : (((F40 M) ≤ x3 → res = (some (.int x2), hs E M)) ∧ (¬ (F40 M) ≤ x3 → Ev 2 26 18 [some (.ref 44), some (.int x1), some (.int x2), some (.int x3), some (.int 0)] [] (hs E M) res))) : Ev 2 26 4 [some (.ref 44), some (.int x1), some (.int x2), some (.int x3), none] [] (hs E M) res := by
  refine Ev.steps 3 (pc' := 9) (L' := [some (.ref 44), some (.int x1), some (.int x2), some (.int x3), none]) (st' := [.ref 9, .int x3]) rfl ?_
  refine Ev.call (y := 40) (args := [.ref 9]) (rest := [.int x3]) (r := some (.int (F40 M))) rfl (s40) ?_
  show Ev 2 26 12 [some (.ref 44), some (.int x1), some (.int x2), some (.int x3), none] [.int (F40 M), .int x3] _ _
  refine Ev.steps 1 (pc' := if (F40 M) ≤ x3 then 68 else 15) (L' := [some (.ref 44), some (.int x1), some (.int x2), some (.int x3), none]) (st' := []) rfl ?_
  refine Ev_ite (fun hc => ?_) (fun hc => ?_)
  · replace H := H.1 hc
    refine Ev.steps 1 (pc' := 69) (L' := [some (.ref 44), some (.int x1), some (.int x2), some (.int x3), none]) (st' := [.int x2]) rfl ?_
    subst H
    exact Ev.ret rfl
  · replace H := H.2 hc
    refine Ev.steps 2 (pc' := 18) (L' := [some (.ref 44), some (.int x1), some (.int x2), some (.int x3), some (.int 0)]) (st' := []) rfl ?_
    exact Ev.weak [some (.ref 44), some (.int x1), some (.int x2), some (.int x3), some (.int 0)] (gw_leb_le ⟨rfl, rfl, rfl, rfl, rfl, trivial⟩) H

theorem w26_18 {E : gw_N} {M : Mem} {res : Option Value × gw_H} {x1 : Int32} {x2 : Int32} {x3 : Int32} {x4 : Int32} (H : (inb x3 64 ∧ ((((M 45) (x3 : Int32).toNatClampNeg) ≤ x4 → Ev 2 26 4 [some (.ref 44), some (.int x1), some (.int x2), some (.int (x3 + 1)), none] [] (hs E M) res) ∧ (¬ ((M 45) (x3 : Int32).toNatClampNeg) ≤ x4 → (inb ((12 * x3) + x4) 768 ∧ ((((M 48) (((12 * x3) + x4) : Int32).toNatClampNeg) = x1 → Ev 2 26 18 [some (.ref 44), some (.int x1), some (.int (x2 + (F206 M 1))), some (.int x3), some (.int (x4 + 1))] [] (hs E M) res) ∧ (¬ ((M 48) (((12 * x3) + x4) : Int32).toNatClampNeg) = x1 → Ev 2 26 18 [some (.ref 44), some (.int x1), some (.int (x2 + (F206 M 0))), some (.int x3), some (.int (x4 + 1))] [] (hs E M) res))))))) : Ev 2 26 18 [some (.ref 44), some (.int x1), some (.int x2), some (.int x3), some (.int x4)] [] (hs E M) res := by
  refine Ev.steps 4 (pc' := 25) (L' := [some (.ref 44), some (.int x1), some (.int x2), some (.int x3), some (.int x4)]) (st' := [.int x3, .ref 45, .int x4]) rfl ?_
  refine Ev.rd (i := x3) (n := 64) (pc' := 26) (L' := [some (.ref 44), some (.int x1), some (.int x2), some (.int x3), some (.int x4)]) (st' := [.int ((M 45) (x3 : Int32).toNatClampNeg), .int x4]) H.1 rfl ?_
  replace H := H.2
  refine Ev.steps 1 (pc' := if ((M 45) (x3 : Int32).toNatClampNeg) ≤ x4 then 62 else 29) (L' := [some (.ref 44), some (.int x1), some (.int x2), some (.int x3), some (.int x4)]) (st' := []) rfl ?_
  refine Ev_ite (fun hc => ?_) (fun hc => ?_)
  · replace H := H.1 hc
    refine Ev.steps 2 (pc' := 4) (L' := [some (.ref 44), some (.int x1), some (.int x2), some (.int (x3 + 1)), some (.int x4)]) (st' := []) rfl ?_
    exact Ev.weak [some (.ref 44), some (.int x1), some (.int x2), some (.int (x3 + 1)), none] (gw_leb_le ⟨rfl, rfl, rfl, rfl, trivial⟩) H
  · replace H := H.2 hc
    refine Ev.steps 8 (pc' := 41) (L' := [some (.ref 44), some (.int x1), some (.int x2), some (.int x3), some (.int x4)]) (st' := [.int ((12 * x3) + x4), .ref 48, .int x2]) rfl ?_
    refine Ev.rd (i := ((12 * x3) + x4)) (n := 768) (pc' := 42) (L' := [some (.ref 44), some (.int x1), some (.int x2), some (.int x3), some (.int x4)]) (st' := [.int ((M 48) (((12 * x3) + x4) : Int32).toNatClampNeg), .int x2]) H.1 rfl ?_
    replace H := H.2
    refine Ev.steps 2 (pc' := if ((M 48) (((12 * x3) + x4) : Int32).toNatClampNeg) = x1 then 46 else 50) (L' := [some (.ref 44), some (.int x1), some (.int x2), some (.int x3), some (.int x4)]) (st' := [.int x2]) rfl ?_
    refine Ev_ite (fun hc => ?_) (fun hc => ?_)
    · replace H := H.1 hc
      refine Ev.steps 2 (pc' := 51) (L' := [some (.ref 44), some (.int x1), some (.int x2), some (.int x3), some (.int x4)]) (st' := [.int 1, .int x2]) rfl ?_
      refine Ev.call (y := 206) (args := [.int 1]) (rest := [.int x2]) (r := some (.int (F206 M 1))) rfl (s206) ?_
      show Ev 2 26 54 [some (.ref 44), some (.int x1), some (.int x2), some (.int x3), some (.int x4)] [.int (F206 M 1), .int x2] _ _
      refine Ev.steps 4 (pc' := 18) (L' := [some (.ref 44), some (.int x1), some (.int (x2 + (F206 M 1))), some (.int x3), some (.int (x4 + 1))]) (st' := []) rfl ?_
      exact Ev.weak [some (.ref 44), some (.int x1), some (.int (x2 + (F206 M 1))), some (.int x3), some (.int (x4 + 1))] (gw_leb_le ⟨rfl, rfl, rfl, rfl, rfl, trivial⟩) H
    · replace H := H.2 hc
      refine Ev.steps 1 (pc' := 51) (L' := [some (.ref 44), some (.int x1), some (.int x2), some (.int x3), some (.int x4)]) (st' := [.int 0, .int x2]) rfl ?_
      refine Ev.call (y := 206) (args := [.int 0]) (rest := [.int x2]) (r := some (.int (F206 M 0))) rfl (s206) ?_
      show Ev 2 26 54 [some (.ref 44), some (.int x1), some (.int x2), some (.int x3), some (.int x4)] [.int (F206 M 0), .int x2] _ _
      refine Ev.steps 4 (pc' := 18) (L' := [some (.ref 44), some (.int x1), some (.int (x2 + (F206 M 0))), some (.int x3), some (.int (x4 + 1))]) (st' := []) rfl ?_
      exact Ev.weak [some (.ref 44), some (.int x1), some (.int (x2 + (F206 M 0))), some (.int x3), some (.int (x4 + 1))] (gw_leb_le ⟨rfl, rfl, rfl, rfl, rfl, trivial⟩) H

-- 27 GlassWires$Glass fieldsAtWall ()I
theorem w27_0 {E : gw_N} {M : Mem} {res : Option Value × gw_H}  (H : Ev 2 27 4 [some (.ref 44), some (.int 0), some (.int 0)] [] (hs E M) res) : Ev 2 27 0 [some (.ref 44), none, none] [] (hs E M) res := by
  refine Ev.steps 4 (pc' := 4) (L' := [some (.ref 44), some (.int 0), some (.int 0)]) (st' := []) rfl ?_
  exact Ev.weak [some (.ref 44), some (.int 0), some (.int 0)] (gw_leb_le ⟨rfl, rfl, rfl, trivial⟩) H

theorem w27_4 {E : gw_N} {M : Mem} {res : Option Value × gw_H} {x1 : Int32} {x2 : Int32} (H : (((F40 M) ≤ x2 → res = (some (.int x1), hs E M)) ∧ (¬ (F40 M) ≤ x2 → (∃ (r1 : Int32), Rn 13 [.ref 44, .int x2] (hs E M) (some (.int r1)) (hs E M) ∧ (P103 M ∧ ((r1 < (F103 M) → Ev 2 27 4 [some (.ref 44), some (.int (x1 + (F206 M 0))), some (.int (x2 + 1))] [] (hs E M) res) ∧ (¬ r1 < (F103 M) → Ev 2 27 4 [some (.ref 44), some (.int (x1 + (F206 M 1))), some (.int (x2 + 1))] [] (hs E M) res))))))) : Ev 2 27 4 [some (.ref 44), some (.int x1), some (.int x2)] [] (hs E M) res := by
  refine Ev.steps 3 (pc' := 9) (L' := [some (.ref 44), some (.int x1), some (.int x2)]) (st' := [.ref 9, .int x2]) rfl ?_
  refine Ev.call (y := 40) (args := [.ref 9]) (rest := [.int x2]) (r := some (.int (F40 M))) rfl (s40) ?_
  show Ev 2 27 12 [some (.ref 44), some (.int x1), some (.int x2)] [.int (F40 M), .int x2] _ _
  refine Ev.steps 1 (pc' := if (F40 M) ≤ x2 then 47 else 15) (L' := [some (.ref 44), some (.int x1), some (.int x2)]) (st' := []) rfl ?_
  refine Ev_ite (fun hc => ?_) (fun hc => ?_)
  · replace H := H.1 hc
    refine Ev.steps 1 (pc' := 48) (L' := [some (.ref 44), some (.int x1), some (.int x2)]) (st' := [.int x1]) rfl ?_
    subst H
    exact Ev.ret rfl
  · replace H := H.2 hc
    refine Ev.steps 3 (pc' := 18) (L' := [some (.ref 44), some (.int x1), some (.int x2)]) (st' := [.int x2, .ref 44, .int x1]) rfl ?_
    obtain ⟨r1, hr1, H⟩ := H
    refine Ev.call (y := 13) (args := [.ref 44, .int x2]) (rest := [.int x1]) (r := (some (.int r1))) rfl hr1 ?_
    show Ev 2 27 21 [some (.ref 44), some (.int x1), some (.int x2)] [.int r1, .int x1] _ _
    refine Ev.steps 2 (pc' := 25) (L' := [some (.ref 44), some (.int x1), some (.int x2)]) (st' := [.ref 40, .int r1, .int x1]) rfl ?_
    refine Ev.call (y := 103) (args := [.ref 40]) (rest := [.int r1, .int x1]) (r := some (.int (F103 M))) rfl (s103 H.1) ?_
    replace H := H.2
    show Ev 2 27 28 [some (.ref 44), some (.int x1), some (.int x2)] [.int (F103 M), .int r1, .int x1] _ _
    refine Ev.steps 1 (pc' := if r1 < (F103 M) then 35 else 31) (L' := [some (.ref 44), some (.int x1), some (.int x2)]) (st' := [.int x1]) rfl ?_
    refine Ev_ite (fun hc => ?_) (fun hc => ?_)
    · replace H := H.1 hc
      refine Ev.steps 1 (pc' := 36) (L' := [some (.ref 44), some (.int x1), some (.int x2)]) (st' := [.int 0, .int x1]) rfl ?_
      refine Ev.call (y := 206) (args := [.int 0]) (rest := [.int x1]) (r := some (.int (F206 M 0))) rfl (s206) ?_
      show Ev 2 27 39 [some (.ref 44), some (.int x1), some (.int x2)] [.int (F206 M 0), .int x1] _ _
      refine Ev.steps 4 (pc' := 4) (L' := [some (.ref 44), some (.int (x1 + (F206 M 0))), some (.int (x2 + 1))]) (st' := []) rfl ?_
      exact Ev.weak [some (.ref 44), some (.int (x1 + (F206 M 0))), some (.int (x2 + 1))] (gw_leb_le ⟨rfl, rfl, rfl, trivial⟩) H
    · replace H := H.2 hc
      refine Ev.steps 2 (pc' := 36) (L' := [some (.ref 44), some (.int x1), some (.int x2)]) (st' := [.int 1, .int x1]) rfl ?_
      refine Ev.call (y := 206) (args := [.int 1]) (rest := [.int x1]) (r := some (.int (F206 M 1))) rfl (s206) ?_
      show Ev 2 27 39 [some (.ref 44), some (.int x1), some (.int x2)] [.int (F206 M 1), .int x1] _ _
      refine Ev.steps 4 (pc' := 4) (L' := [some (.ref 44), some (.int (x1 + (F206 M 1))), some (.int (x2 + 1))]) (st' := []) rfl ?_
      exact Ev.weak [some (.ref 44), some (.int (x1 + (F206 M 1))), some (.int (x2 + 1))] (gw_leb_le ⟨rfl, rfl, rfl, trivial⟩) H

-- 30 GlassWires$Glass frontPull ()I
theorem w30_0 {E : gw_N} {M : Mem} {res : Option Value × gw_H}  (H : Ev 2 30 4 [some (.ref 44), some (.int 0), some (.int 0), none, none] [] (hs E M) res) : Ev 2 30 0 [some (.ref 44), none, none, none, none] [] (hs E M) res := by
  refine Ev.steps 4 (pc' := 4) (L' := [some (.ref 44), some (.int 0), some (.int 0), none, none]) (st' := []) rfl ?_
  exact Ev.weak [some (.ref 44), some (.int 0), some (.int 0), none, none] (gw_leb_le ⟨rfl, rfl, rfl, trivial⟩) H

theorem w30_4 {E : gw_N} {M : Mem} {res : Option Value × gw_H} {x1 : Int32} {x2 : Int32} (H : (((F40 M) ≤ x2 → res = (some (.int x1), hs E M)) ∧ (¬ (F40 M) ≤ x2 → Ev 2 30 17 [some (.ref 44), some (.int x1), some (.int x2), some (.int 0), none] [] (hs E M) res))) : Ev 2 30 4 [some (.ref 44), some (.int x1), some (.int x2), none, none] [] (hs E M) res := by
  refine Ev.steps 3 (pc' := 9) (L' := [some (.ref 44), some (.int x1), some (.int x2), none, none]) (st' := [.ref 9, .int x2]) rfl ?_
  refine Ev.call (y := 40) (args := [.ref 9]) (rest := [.int x2]) (r := some (.int (F40 M))) rfl (s40) ?_
  show Ev 2 30 12 [some (.ref 44), some (.int x1), some (.int x2), none, none] [.int (F40 M), .int x2] _ _
  refine Ev.steps 1 (pc' := if (F40 M) ≤ x2 then 82 else 15) (L' := [some (.ref 44), some (.int x1), some (.int x2), none, none]) (st' := []) rfl ?_
  refine Ev_ite (fun hc => ?_) (fun hc => ?_)
  · replace H := H.1 hc
    refine Ev.steps 1 (pc' := 83) (L' := [some (.ref 44), some (.int x1), some (.int x2), none, none]) (st' := [.int x1]) rfl ?_
    subst H
    exact Ev.ret rfl
  · replace H := H.2 hc
    refine Ev.steps 2 (pc' := 17) (L' := [some (.ref 44), some (.int x1), some (.int x2), some (.int 0), none]) (st' := []) rfl ?_
    exact Ev.weak [some (.ref 44), some (.int x1), some (.int x2), some (.int 0), none] (gw_leb_le ⟨rfl, rfl, rfl, rfl, trivial⟩) H

theorem w30_17 {E : gw_N} {M : Mem} {res : Option Value × gw_H} {x1 : Int32} {x2 : Int32} {x3 : Int32} (H : (inb x2 64 ∧ ((((M 45) (x2 : Int32).toNatClampNeg) ≤ x3 → Ev 2 30 4 [some (.ref 44), some (.int x1), some (.int (x2 + 1)), none, none] [] (hs E M) res) ∧ (¬ ((M 45) (x2 : Int32).toNatClampNeg) ≤ x3 → (inb ((12 * x2) + x3) 768 ∧ ((((M 48) (((12 * x2) + x3) : Int32).toNatClampNeg) = 0 → Ev 2 30 17 [some (.ref 44), some (.int x1), some (.int x2), some (.int (x3 + 1)), none] [] (hs E M) res) ∧ (¬ ((M 48) (((12 * x2) + x3) : Int32).toNatClampNeg) = 0 → (inb ((12 * x2) + x3) 768 ∧ (inb ((12 * x2) + x3) 768 ∧ (P101 M ((M 46) (((12 * x2) + x3) : Int32).toNatClampNeg) ∧ Ev 2 30 17 [some (.ref 44), some (.int (x1 + (((M 47) (((12 * x2) + x3) : Int32).toNatClampNeg) * (F101 M ((M 46) (((12 * x2) + x3) : Int32).toNatClampNeg))))), some (.int x2), some (.int (x3 + 1)), none] [] (hs E M) res)))))))))) : Ev 2 30 17 [some (.ref 44), some (.int x1), some (.int x2), some (.int x3), none] [] (hs E M) res := by
  refine Ev.steps 4 (pc' := 23) (L' := [some (.ref 44), some (.int x1), some (.int x2), some (.int x3), none]) (st' := [.int x2, .ref 45, .int x3]) rfl ?_
  refine Ev.rd (i := x2) (n := 64) (pc' := 24) (L' := [some (.ref 44), some (.int x1), some (.int x2), some (.int x3), none]) (st' := [.int ((M 45) (x2 : Int32).toNatClampNeg), .int x3]) H.1 rfl ?_
  replace H := H.2
  refine Ev.steps 1 (pc' := if ((M 45) (x2 : Int32).toNatClampNeg) ≤ x3 then 76 else 27) (L' := [some (.ref 44), some (.int x1), some (.int x2), some (.int x3), none]) (st' := []) rfl ?_
  refine Ev_ite (fun hc => ?_) (fun hc => ?_)
  · replace H := H.1 hc
    refine Ev.steps 2 (pc' := 4) (L' := [some (.ref 44), some (.int x1), some (.int (x2 + 1)), some (.int x3), none]) (st' := []) rfl ?_
    exact Ev.weak [some (.ref 44), some (.int x1), some (.int (x2 + 1)), none, none] (gw_leb_le ⟨rfl, rfl, rfl, trivial⟩) H
  · replace H := H.2 hc
    refine Ev.steps 9 (pc' := 41) (L' := [some (.ref 44), some (.int x1), some (.int x2), some (.int x3), some (.int ((12 * x2) + x3))]) (st' := [.int ((12 * x2) + x3), .ref 48]) rfl ?_
    refine Ev.rd (i := ((12 * x2) + x3)) (n := 768) (pc' := 42) (L' := [some (.ref 44), some (.int x1), some (.int x2), some (.int x3), some (.int ((12 * x2) + x3))]) (st' := [.int ((M 48) (((12 * x2) + x3) : Int32).toNatClampNeg)]) H.1 rfl ?_
    replace H := H.2
    refine Ev.steps 1 (pc' := if ((M 48) (((12 * x2) + x3) : Int32).toNatClampNeg) = 0 then 70 else 45) (L' := [some (.ref 44), some (.int x1), some (.int x2), some (.int x3), some (.int ((12 * x2) + x3))]) (st' := []) rfl ?_
    refine Ev_ite (fun hc => ?_) (fun hc => ?_)
    · replace H := H.1 hc
      refine Ev.steps 2 (pc' := 17) (L' := [some (.ref 44), some (.int x1), some (.int x2), some (.int (x3 + 1)), some (.int ((12 * x2) + x3))]) (st' := []) rfl ?_
      exact Ev.weak [some (.ref 44), some (.int x1), some (.int x2), some (.int (x3 + 1)), none] (gw_leb_le ⟨rfl, rfl, rfl, rfl, trivial⟩) H
    · replace H := H.2 hc
      refine Ev.steps 4 (pc' := 52) (L' := [some (.ref 44), some (.int x1), some (.int x2), some (.int x3), some (.int ((12 * x2) + x3))]) (st' := [.int ((12 * x2) + x3), .ref 47, .int x1]) rfl ?_
      refine Ev.rd (i := ((12 * x2) + x3)) (n := 768) (pc' := 53) (L' := [some (.ref 44), some (.int x1), some (.int x2), some (.int x3), some (.int ((12 * x2) + x3))]) (st' := [.int ((M 47) (((12 * x2) + x3) : Int32).toNatClampNeg), .int x1]) H.1 rfl ?_
      replace H := H.2
      refine Ev.steps 5 (pc' := 63) (L' := [some (.ref 44), some (.int x1), some (.int x2), some (.int x3), some (.int ((12 * x2) + x3))]) (st' := [.int ((12 * x2) + x3), .ref 46, .ref 40, .int ((M 47) (((12 * x2) + x3) : Int32).toNatClampNeg), .int x1]) rfl ?_
      refine Ev.rd (i := ((12 * x2) + x3)) (n := 768) (pc' := 64) (L' := [some (.ref 44), some (.int x1), some (.int x2), some (.int x3), some (.int ((12 * x2) + x3))]) (st' := [.int ((M 46) (((12 * x2) + x3) : Int32).toNatClampNeg), .ref 40, .int ((M 47) (((12 * x2) + x3) : Int32).toNatClampNeg), .int x1]) H.1 rfl ?_
      replace H := H.2
      refine Ev.call (y := 101) (args := [.ref 40, .int ((M 46) (((12 * x2) + x3) : Int32).toNatClampNeg)]) (rest := [.int ((M 47) (((12 * x2) + x3) : Int32).toNatClampNeg), .int x1]) (r := some (.int (F101 M ((M 46) (((12 * x2) + x3) : Int32).toNatClampNeg)))) rfl (s101 H.1) ?_
      replace H := H.2
      show Ev 2 30 67 [some (.ref 44), some (.int x1), some (.int x2), some (.int x3), some (.int ((12 * x2) + x3))] [.int (F101 M ((M 46) (((12 * x2) + x3) : Int32).toNatClampNeg)), .int ((M 47) (((12 * x2) + x3) : Int32).toNatClampNeg), .int x1] _ _
      refine Ev.steps 5 (pc' := 17) (L' := [some (.ref 44), some (.int (x1 + (((M 47) (((12 * x2) + x3) : Int32).toNatClampNeg) * (F101 M ((M 46) (((12 * x2) + x3) : Int32).toNatClampNeg))))), some (.int x2), some (.int (x3 + 1)), some (.int ((12 * x2) + x3))]) (st' := []) rfl ?_
      exact Ev.weak [some (.ref 44), some (.int (x1 + (((M 47) (((12 * x2) + x3) : Int32).toNatClampNeg) * (F101 M ((M 46) (((12 * x2) + x3) : Int32).toNatClampNeg))))), some (.int x2), some (.int (x3 + 1)), none] (gw_leb_le ⟨rfl, rfl, rfl, rfl, trivial⟩) H

-- 34 GlassWires$Glass digestLayersOn (J)J
theorem w34_0 {E : gw_N} {M : Mem} {res : Option Value × gw_H} {x1 : Int64} (H : Ev 2 34 5 [some (.ref 44), none, none, some (.long x1), none, some (.int 0), none, none] [] (hs E M) res) : Ev 2 34 0 [some (.ref 44), some (.long x1), none, none, none, none, none, none] [] (hs E M) res := by
  refine Ev.steps 4 (pc' := 5) (L' := [some (.ref 44), some (.long x1), none, some (.long x1), none, some (.int 0), none, none]) (st' := []) rfl ?_
  exact Ev.weak [some (.ref 44), none, none, some (.long x1), none, some (.int 0), none, none] (gw_leb_le ⟨rfl, rfl, rfl, trivial⟩) H

theorem w34_5 {E : gw_N} {M : Mem} {res : Option Value × gw_H} {x3 : Int64} {x5 : Int32} (H : (((F40 M) ≤ x5 → res = (some (.long x3), hs E M)) ∧ (¬ (F40 M) ≤ x5 → Ev 2 34 20 [some (.ref 44), none, none, some (.long x3), none, some (.int x5), some (.int 0), none] [] (hs E M) res))) : Ev 2 34 5 [some (.ref 44), none, none, some (.long x3), none, some (.int x5), none, none] [] (hs E M) res := by
  refine Ev.steps 3 (pc' := 11) (L' := [some (.ref 44), none, none, some (.long x3), none, some (.int x5), none, none]) (st' := [.ref 9, .int x5]) rfl ?_
  refine Ev.call (y := 40) (args := [.ref 9]) (rest := [.int x5]) (r := some (.int (F40 M))) rfl (s40) ?_
  show Ev 2 34 14 [some (.ref 44), none, none, some (.long x3), none, some (.int x5), none, none] [.int (F40 M), .int x5] _ _
  refine Ev.steps 1 (pc' := if (F40 M) ≤ x5 then 89 else 17) (L' := [some (.ref 44), none, none, some (.long x3), none, some (.int x5), none, none]) (st' := []) rfl ?_
  refine Ev_ite (fun hc => ?_) (fun hc => ?_)
  · replace H := H.1 hc
    refine Ev.steps 1 (pc' := 90) (L' := [some (.ref 44), none, none, some (.long x3), none, some (.int x5), none, none]) (st' := [.long x3]) rfl ?_
    subst H
    exact Ev.ret rfl
  · replace H := H.2 hc
    refine Ev.steps 2 (pc' := 20) (L' := [some (.ref 44), none, none, some (.long x3), none, some (.int x5), some (.int 0), none]) (st' := []) rfl ?_
    exact Ev.weak [some (.ref 44), none, none, some (.long x3), none, some (.int x5), some (.int 0), none] (gw_leb_le ⟨rfl, rfl, rfl, rfl, trivial⟩) H

theorem w34_20 {E : gw_N} {M : Mem} {res : Option Value × gw_H} {x3 : Int64} {x5 : Int32} {x6 : Int32} (H : (inb x5 64 ∧ ((((M 45) (x5 : Int32).toNatClampNeg) ≤ x6 → Ev 2 34 5 [some (.ref 44), none, none, some (.long x3), none, some (.int (x5 + 1)), none, none] [] (hs E M) res) ∧ (¬ ((M 45) (x5 : Int32).toNatClampNeg) ≤ x6 → (inb ((12 * x5) + x6) 768 ∧ (inb ((12 * x5) + x6) 768 ∧ (inb ((12 * x5) + x6) 768 ∧ Ev 2 34 20 [some (.ref 44), none, none, some (.long (F207 M (F207 M (F207 M x3 (Int32.toInt64 ((M 46) (((12 * x5) + x6) : Int32).toNatClampNeg))) (Int32.toInt64 ((M 47) (((12 * x5) + x6) : Int32).toNatClampNeg))) (Int32.toInt64 ((M 48) (((12 * x5) + x6) : Int32).toNatClampNeg)))), none, some (.int x5), some (.int (x6 + 1)), none] [] (hs E M) res))))))) : Ev 2 34 20 [some (.ref 44), none, none, some (.long x3), none, some (.int x5), some (.int x6), none] [] (hs E M) res := by
  refine Ev.steps 4 (pc' := 28) (L' := [some (.ref 44), none, none, some (.long x3), none, some (.int x5), some (.int x6), none]) (st' := [.int x5, .ref 45, .int x6]) rfl ?_
  refine Ev.rd (i := x5) (n := 64) (pc' := 29) (L' := [some (.ref 44), none, none, some (.long x3), none, some (.int x5), some (.int x6), none]) (st' := [.int ((M 45) (x5 : Int32).toNatClampNeg), .int x6]) H.1 rfl ?_
  replace H := H.2
  refine Ev.steps 1 (pc' := if ((M 45) (x5 : Int32).toNatClampNeg) ≤ x6 then 83 else 32) (L' := [some (.ref 44), none, none, some (.long x3), none, some (.int x5), some (.int x6), none]) (st' := []) rfl ?_
  refine Ev_ite (fun hc => ?_) (fun hc => ?_)
  · replace H := H.1 hc
    refine Ev.steps 2 (pc' := 5) (L' := [some (.ref 44), none, none, some (.long x3), none, some (.int (x5 + 1)), some (.int x6), none]) (st' := []) rfl ?_
    exact Ev.weak [some (.ref 44), none, none, some (.long x3), none, some (.int (x5 + 1)), none, none] (gw_leb_le ⟨rfl, rfl, rfl, trivial⟩) H
  · replace H := H.2 hc
    refine Ev.steps 10 (pc' := 49) (L' := [some (.ref 44), none, none, some (.long x3), none, some (.int x5), some (.int x6), some (.int ((12 * x5) + x6))]) (st' := [.int ((12 * x5) + x6), .ref 46, .long x3]) rfl ?_
    refine Ev.rd (i := ((12 * x5) + x6)) (n := 768) (pc' := 50) (L' := [some (.ref 44), none, none, some (.long x3), none, some (.int x5), some (.int x6), some (.int ((12 * x5) + x6))]) (st' := [.int ((M 46) (((12 * x5) + x6) : Int32).toNatClampNeg), .long x3]) H.1 rfl ?_
    replace H := H.2
    refine Ev.steps 1 (pc' := 51) (L' := [some (.ref 44), none, none, some (.long x3), none, some (.int x5), some (.int x6), some (.int ((12 * x5) + x6))]) (st' := [.long (Int32.toInt64 ((M 46) (((12 * x5) + x6) : Int32).toNatClampNeg)), .long x3]) rfl ?_
    refine Ev.call (y := 207) (args := [.long x3, .long (Int32.toInt64 ((M 46) (((12 * x5) + x6) : Int32).toNatClampNeg))]) (rest := []) (r := some (.long (F207 M x3 (Int32.toInt64 ((M 46) (((12 * x5) + x6) : Int32).toNatClampNeg))))) rfl (s207) ?_
    show Ev 2 34 54 [some (.ref 44), none, none, some (.long x3), none, some (.int x5), some (.int x6), some (.int ((12 * x5) + x6))] [.long (F207 M x3 (Int32.toInt64 ((M 46) (((12 * x5) + x6) : Int32).toNatClampNeg)))] _ _
    refine Ev.steps 3 (pc' := 60) (L' := [some (.ref 44), none, none, some (.long x3), none, some (.int x5), some (.int x6), some (.int ((12 * x5) + x6))]) (st' := [.int ((12 * x5) + x6), .ref 47, .long (F207 M x3 (Int32.toInt64 ((M 46) (((12 * x5) + x6) : Int32).toNatClampNeg)))]) rfl ?_
    refine Ev.rd (i := ((12 * x5) + x6)) (n := 768) (pc' := 61) (L' := [some (.ref 44), none, none, some (.long x3), none, some (.int x5), some (.int x6), some (.int ((12 * x5) + x6))]) (st' := [.int ((M 47) (((12 * x5) + x6) : Int32).toNatClampNeg), .long (F207 M x3 (Int32.toInt64 ((M 46) (((12 * x5) + x6) : Int32).toNatClampNeg)))]) H.1 rfl ?_
    replace H := H.2
    refine Ev.steps 1 (pc' := 62) (L' := [some (.ref 44), none, none, some (.long x3), none, some (.int x5), some (.int x6), some (.int ((12 * x5) + x6))]) (st' := [.long (Int32.toInt64 ((M 47) (((12 * x5) + x6) : Int32).toNatClampNeg)), .long (F207 M x3 (Int32.toInt64 ((M 46) (((12 * x5) + x6) : Int32).toNatClampNeg)))]) rfl ?_
    refine Ev.call (y := 207) (args := [.long (F207 M x3 (Int32.toInt64 ((M 46) (((12 * x5) + x6) : Int32).toNatClampNeg))), .long (Int32.toInt64 ((M 47) (((12 * x5) + x6) : Int32).toNatClampNeg))]) (rest := []) (r := some (.long (F207 M (F207 M x3 (Int32.toInt64 ((M 46) (((12 * x5) + x6) : Int32).toNatClampNeg))) (Int32.toInt64 ((M 47) (((12 * x5) + x6) : Int32).toNatClampNeg))))) rfl (s207) ?_
    show Ev 2 34 65 [some (.ref 44), none, none, some (.long x3), none, some (.int x5), some (.int x6), some (.int ((12 * x5) + x6))] [.long (F207 M (F207 M x3 (Int32.toInt64 ((M 46) (((12 * x5) + x6) : Int32).toNatClampNeg))) (Int32.toInt64 ((M 47) (((12 * x5) + x6) : Int32).toNatClampNeg)))] _ _
    refine Ev.steps 3 (pc' := 71) (L' := [some (.ref 44), none, none, some (.long x3), none, some (.int x5), some (.int x6), some (.int ((12 * x5) + x6))]) (st' := [.int ((12 * x5) + x6), .ref 48, .long (F207 M (F207 M x3 (Int32.toInt64 ((M 46) (((12 * x5) + x6) : Int32).toNatClampNeg))) (Int32.toInt64 ((M 47) (((12 * x5) + x6) : Int32).toNatClampNeg)))]) rfl ?_
    refine Ev.rd (i := ((12 * x5) + x6)) (n := 768) (pc' := 72) (L' := [some (.ref 44), none, none, some (.long x3), none, some (.int x5), some (.int x6), some (.int ((12 * x5) + x6))]) (st' := [.int ((M 48) (((12 * x5) + x6) : Int32).toNatClampNeg), .long (F207 M (F207 M x3 (Int32.toInt64 ((M 46) (((12 * x5) + x6) : Int32).toNatClampNeg))) (Int32.toInt64 ((M 47) (((12 * x5) + x6) : Int32).toNatClampNeg)))]) H.1 rfl ?_
    replace H := H.2
    refine Ev.steps 1 (pc' := 73) (L' := [some (.ref 44), none, none, some (.long x3), none, some (.int x5), some (.int x6), some (.int ((12 * x5) + x6))]) (st' := [.long (Int32.toInt64 ((M 48) (((12 * x5) + x6) : Int32).toNatClampNeg)), .long (F207 M (F207 M x3 (Int32.toInt64 ((M 46) (((12 * x5) + x6) : Int32).toNatClampNeg))) (Int32.toInt64 ((M 47) (((12 * x5) + x6) : Int32).toNatClampNeg)))]) rfl ?_
    refine Ev.call (y := 207) (args := [.long (F207 M (F207 M x3 (Int32.toInt64 ((M 46) (((12 * x5) + x6) : Int32).toNatClampNeg))) (Int32.toInt64 ((M 47) (((12 * x5) + x6) : Int32).toNatClampNeg))), .long (Int32.toInt64 ((M 48) (((12 * x5) + x6) : Int32).toNatClampNeg))]) (rest := []) (r := some (.long (F207 M (F207 M (F207 M x3 (Int32.toInt64 ((M 46) (((12 * x5) + x6) : Int32).toNatClampNeg))) (Int32.toInt64 ((M 47) (((12 * x5) + x6) : Int32).toNatClampNeg))) (Int32.toInt64 ((M 48) (((12 * x5) + x6) : Int32).toNatClampNeg))))) rfl (s207) ?_
    show Ev 2 34 76 [some (.ref 44), none, none, some (.long x3), none, some (.int x5), some (.int x6), some (.int ((12 * x5) + x6))] [.long (F207 M (F207 M (F207 M x3 (Int32.toInt64 ((M 46) (((12 * x5) + x6) : Int32).toNatClampNeg))) (Int32.toInt64 ((M 47) (((12 * x5) + x6) : Int32).toNatClampNeg))) (Int32.toInt64 ((M 48) (((12 * x5) + x6) : Int32).toNatClampNeg)))] _ _
    refine Ev.steps 3 (pc' := 20) (L' := [some (.ref 44), none, none, some (.long (F207 M (F207 M (F207 M x3 (Int32.toInt64 ((M 46) (((12 * x5) + x6) : Int32).toNatClampNeg))) (Int32.toInt64 ((M 47) (((12 * x5) + x6) : Int32).toNatClampNeg))) (Int32.toInt64 ((M 48) (((12 * x5) + x6) : Int32).toNatClampNeg)))), none, some (.int x5), some (.int (x6 + 1)), some (.int ((12 * x5) + x6))]) (st' := []) rfl ?_
    exact Ev.weak [some (.ref 44), none, none, some (.long (F207 M (F207 M (F207 M x3 (Int32.toInt64 ((M 46) (((12 * x5) + x6) : Int32).toNatClampNeg))) (Int32.toInt64 ((M 47) (((12 * x5) + x6) : Int32).toNatClampNeg))) (Int32.toInt64 ((M 48) (((12 * x5) + x6) : Int32).toNatClampNeg)))), none, some (.int x5), some (.int (x6 + 1)), none] (gw_leb_le ⟨rfl, rfl, rfl, rfl, trivial⟩) H

-- 44 GlassWires$Grid hasEdge (III)Z
theorem w44_0 {E : gw_N} {M : Mem} {res : Option Value × gw_H} {x1 : Int32} {x2 : Int32} {x3 : Int32} (H : ((x3 = 0 → (((F41 M x1 x2) = 0 → res = (some (.int 0), hs E M)) ∧ (¬ (F41 M x1 x2) = 0 → (((F41 M (x1 + (F53 M x3)) (x2 + (F54 M x3))) = 0 → res = (some (.int 0), hs E M)) ∧ (¬ (F41 M (x1 + (F53 M x3)) (x2 + (F54 M x3))) = 0 → res = (some (.int 1), hs E M)))))) ∧ (¬ x3 = 0 → ((x3 = 1 → (((F41 M x1 x2) = 0 → res = (some (.int 0), hs E M)) ∧ (¬ (F41 M x1 x2) = 0 → (((F41 M (x1 + (F53 M x3)) (x2 + (F54 M x3))) = 0 → res = (some (.int 0), hs E M)) ∧ (¬ (F41 M (x1 + (F53 M x3)) (x2 + (F54 M x3))) = 0 → res = (some (.int 1), hs E M)))))) ∧ (¬ x3 = 1 → res = (some (.int 0), hs E M)))))) : Ev 2 44 0 [some (.ref 9), some (.int x1), some (.int x2), some (.int x3)] [] (hs E M) res := by
  refine Ev.steps 2 (pc' := if x3 = 0 then 11 else 4) (L' := [some (.ref 9), some (.int x1), some (.int x2), some (.int x3)]) (st' := []) rfl ?_
  refine Ev_ite (fun hc => ?_) (fun hc => ?_)
  · replace H := H.1 hc
    refine Ev.steps 3 (pc' := 14) (L' := [some (.ref 9), some (.int x1), some (.int x2), some (.int x3)]) (st' := [.int x2, .int x1, .ref 9]) rfl ?_
    refine Ev.call (y := 41) (args := [.ref 9, .int x1, .int x2]) (rest := []) (r := some (.int (F41 M x1 x2))) rfl (s41) ?_
    show Ev 2 44 17 [some (.ref 9), some (.int x1), some (.int x2), some (.int x3)] [.int (F41 M x1 x2)] _ _
    refine Ev.steps 1 (pc' := if (F41 M x1 x2) = 0 then 43 else 20) (L' := [some (.ref 9), some (.int x1), some (.int x2), some (.int x3)]) (st' := []) rfl ?_
    refine Ev_ite (fun hc => ?_) (fun hc => ?_)
    · replace H := H.1 hc
      refine Ev.steps 1 (pc' := 44) (L' := [some (.ref 9), some (.int x1), some (.int x2), some (.int x3)]) (st' := [.int 0]) rfl ?_
      subst H
      exact Ev.ret rfl
    · replace H := H.2 hc
      refine Ev.steps 3 (pc' := 23) (L' := [some (.ref 9), some (.int x1), some (.int x2), some (.int x3)]) (st' := [.int x3, .int x1, .ref 9]) rfl ?_
      refine Ev.call (y := 53) (args := [.int x3]) (rest := [.int x1, .ref 9]) (r := some (.int (F53 M x3))) rfl (s53) ?_
      show Ev 2 44 26 [some (.ref 9), some (.int x1), some (.int x2), some (.int x3)] [.int (F53 M x3), .int x1, .ref 9] _ _
      refine Ev.steps 3 (pc' := 29) (L' := [some (.ref 9), some (.int x1), some (.int x2), some (.int x3)]) (st' := [.int x3, .int x2, .int (x1 + (F53 M x3)), .ref 9]) rfl ?_
      refine Ev.call (y := 54) (args := [.int x3]) (rest := [.int x2, .int (x1 + (F53 M x3)), .ref 9]) (r := some (.int (F54 M x3))) rfl (s54) ?_
      show Ev 2 44 32 [some (.ref 9), some (.int x1), some (.int x2), some (.int x3)] [.int (F54 M x3), .int x2, .int (x1 + (F53 M x3)), .ref 9] _ _
      refine Ev.steps 1 (pc' := 33) (L' := [some (.ref 9), some (.int x1), some (.int x2), some (.int x3)]) (st' := [.int (x2 + (F54 M x3)), .int (x1 + (F53 M x3)), .ref 9]) rfl ?_
      refine Ev.call (y := 41) (args := [.ref 9, .int (x1 + (F53 M x3)), .int (x2 + (F54 M x3))]) (rest := []) (r := some (.int (F41 M (x1 + (F53 M x3)) (x2 + (F54 M x3))))) rfl (s41) ?_
      show Ev 2 44 36 [some (.ref 9), some (.int x1), some (.int x2), some (.int x3)] [.int (F41 M (x1 + (F53 M x3)) (x2 + (F54 M x3)))] _ _
      refine Ev.steps 1 (pc' := if (F41 M (x1 + (F53 M x3)) (x2 + (F54 M x3))) = 0 then 43 else 39) (L' := [some (.ref 9), some (.int x1), some (.int x2), some (.int x3)]) (st' := []) rfl ?_
      refine Ev_ite (fun hc => ?_) (fun hc => ?_)
      · replace H := H.1 hc
        refine Ev.steps 1 (pc' := 44) (L' := [some (.ref 9), some (.int x1), some (.int x2), some (.int x3)]) (st' := [.int 0]) rfl ?_
        subst H
        exact Ev.ret rfl
      · replace H := H.2 hc
        refine Ev.steps 2 (pc' := 44) (L' := [some (.ref 9), some (.int x1), some (.int x2), some (.int x3)]) (st' := [.int 1]) rfl ?_
        subst H
        exact Ev.ret rfl
  · replace H := H.2 hc
    refine Ev.steps 3 (pc' := if x3 = 1 then 11 else 9) (L' := [some (.ref 9), some (.int x1), some (.int x2), some (.int x3)]) (st' := []) rfl ?_
    refine Ev_ite (fun hc => ?_) (fun hc => ?_)
    · replace H := H.1 hc
      refine Ev.steps 3 (pc' := 14) (L' := [some (.ref 9), some (.int x1), some (.int x2), some (.int x3)]) (st' := [.int x2, .int x1, .ref 9]) rfl ?_
      refine Ev.call (y := 41) (args := [.ref 9, .int x1, .int x2]) (rest := []) (r := some (.int (F41 M x1 x2))) rfl (s41) ?_
      show Ev 2 44 17 [some (.ref 9), some (.int x1), some (.int x2), some (.int x3)] [.int (F41 M x1 x2)] _ _
      refine Ev.steps 1 (pc' := if (F41 M x1 x2) = 0 then 43 else 20) (L' := [some (.ref 9), some (.int x1), some (.int x2), some (.int x3)]) (st' := []) rfl ?_
      refine Ev_ite (fun hc => ?_) (fun hc => ?_)
      · replace H := H.1 hc
        refine Ev.steps 1 (pc' := 44) (L' := [some (.ref 9), some (.int x1), some (.int x2), some (.int x3)]) (st' := [.int 0]) rfl ?_
        subst H
        exact Ev.ret rfl
      · replace H := H.2 hc
        refine Ev.steps 3 (pc' := 23) (L' := [some (.ref 9), some (.int x1), some (.int x2), some (.int x3)]) (st' := [.int x3, .int x1, .ref 9]) rfl ?_
        refine Ev.call (y := 53) (args := [.int x3]) (rest := [.int x1, .ref 9]) (r := some (.int (F53 M x3))) rfl (s53) ?_
        show Ev 2 44 26 [some (.ref 9), some (.int x1), some (.int x2), some (.int x3)] [.int (F53 M x3), .int x1, .ref 9] _ _
        refine Ev.steps 3 (pc' := 29) (L' := [some (.ref 9), some (.int x1), some (.int x2), some (.int x3)]) (st' := [.int x3, .int x2, .int (x1 + (F53 M x3)), .ref 9]) rfl ?_
        refine Ev.call (y := 54) (args := [.int x3]) (rest := [.int x2, .int (x1 + (F53 M x3)), .ref 9]) (r := some (.int (F54 M x3))) rfl (s54) ?_
        show Ev 2 44 32 [some (.ref 9), some (.int x1), some (.int x2), some (.int x3)] [.int (F54 M x3), .int x2, .int (x1 + (F53 M x3)), .ref 9] _ _
        refine Ev.steps 1 (pc' := 33) (L' := [some (.ref 9), some (.int x1), some (.int x2), some (.int x3)]) (st' := [.int (x2 + (F54 M x3)), .int (x1 + (F53 M x3)), .ref 9]) rfl ?_
        refine Ev.call (y := 41) (args := [.ref 9, .int (x1 + (F53 M x3)), .int (x2 + (F54 M x3))]) (rest := []) (r := some (.int (F41 M (x1 + (F53 M x3)) (x2 + (F54 M x3))))) rfl (s41) ?_
        show Ev 2 44 36 [some (.ref 9), some (.int x1), some (.int x2), some (.int x3)] [.int (F41 M (x1 + (F53 M x3)) (x2 + (F54 M x3)))] _ _
        refine Ev.steps 1 (pc' := if (F41 M (x1 + (F53 M x3)) (x2 + (F54 M x3))) = 0 then 43 else 39) (L' := [some (.ref 9), some (.int x1), some (.int x2), some (.int x3)]) (st' := []) rfl ?_
        refine Ev_ite (fun hc => ?_) (fun hc => ?_)
        · replace H := H.1 hc
          refine Ev.steps 1 (pc' := 44) (L' := [some (.ref 9), some (.int x1), some (.int x2), some (.int x3)]) (st' := [.int 0]) rfl ?_
          subst H
          exact Ev.ret rfl
        · replace H := H.2 hc
          refine Ev.steps 2 (pc' := 44) (L' := [some (.ref 9), some (.int x1), some (.int x2), some (.int x3)]) (st' := [.int 1]) rfl ?_
          subst H
          exact Ev.ret rfl
    · replace H := H.2 hc
      refine Ev.steps 1 (pc' := 10) (L' := [some (.ref 9), some (.int x1), some (.int x2), some (.int x3)]) (st' := [.int 0]) rfl ?_
      subst H
      exact Ev.ret rfl

def F44 (M : Mem) (x1 : Int32) (x2 : Int32) (x3 : Int32) : Int32 := (if x3 = 0 then (if (F41 M x1 x2) = 0 then 0 else (if (F41 M (x1 + (F53 M x3)) (x2 + (F54 M x3))) = 0 then 0 else 1)) else (if x3 = 1 then (if (F41 M x1 x2) = 0 then 0 else (if (F41 M (x1 + (F53 M x3)) (x2 + (F54 M x3))) = 0 then 0 else 1)) else 0))
theorem bb44 {M : Mem} {x1 : Int32} {x2 : Int32} {x3 : Int32} : F44 M x1 x2 x3 &&& 1 = F44 M x1 x2 x3 := by
  unfold F44
  (repeat' split) <;> first | rfl | decide
theorem s44 {E : gw_N} {M : Mem} {x1 : Int32} {x2 : Int32} {x3 : Int32} : Rn 44 [.ref 9, .int x1, .int x2, .int x3] (hs E M) (some (.int (F44 M x1 x2 x3))) (hs E M) :=
  w44_0 (⟨fun h0 => ⟨fun h1 => gw_reteq ((if_pos h0).trans (if_pos h1)), fun h1 => ⟨fun h2 => gw_reteq (((if_pos h0).trans (if_neg h1)).trans (if_pos h2)), fun h2 => gw_reteq (((if_pos h0).trans (if_neg h1)).trans (if_neg h2))⟩⟩, fun h0 => ⟨fun h1 => ⟨fun h2 => gw_reteq (((if_neg h0).trans (if_pos h1)).trans (if_pos h2)), fun h2 => ⟨fun h3 => gw_reteq ((((if_neg h0).trans (if_pos h1)).trans (if_neg h2)).trans (if_pos h3)), fun h3 => gw_reteq ((((if_neg h0).trans (if_pos h1)).trans (if_neg h2)).trans (if_neg h3))⟩⟩, fun h1 => gw_reteq ((if_neg h0).trans (if_neg h1))⟩⟩)
