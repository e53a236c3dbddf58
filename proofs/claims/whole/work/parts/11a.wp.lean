/-! by program (wp.py): formulas that are enough -/
-- 37 GlassWires$Grid resize (II)V
theorem w37_0 {E : gw_N} {M : Mem} {res : Option Value × gw_H} {x1 : Int32} {x2 : Int32} (H : Ev 1 37 12 [some (.ref 9), some (.int x1), some (.int x2), some (.int 0), none] [] (hs E (up M 9 (upd (upd (M 9) 2 x1) 3 x2))) res) : Ev 1 37 0 [some (.ref 9), some (.int x1), some (.int x2), none, none] [] (hs E M) res := by
  refine Ev.steps 2 (pc' := 2) (L' := [some (.ref 9), some (.int x1), some (.int x2), none, none]) (st' := [.int x1, .ref 9]) rfl ?_
  refine Ev.mem (a := 9) (g := (upd (M 9) 2 x1)) (pc' := 5) (L' := [some (.ref 9), some (.int x1), some (.int x2), none, none]) (st' := []) (by decide) rfl ?_
  refine Ev.steps 2 (pc' := 7) (L' := [some (.ref 9), some (.int x1), some (.int x2), none, none]) (st' := [.int x2, .ref 9]) rfl ?_
  refine Ev.mem (a := 9) (g := (upd (upd (M 9) 2 x1) 3 x2)) (pc' := 10) (L' := [some (.ref 9), some (.int x1), some (.int x2), none, none]) (st' := []) (by decide) rfl ?_
  refine Ev.mto (M' := (up M 9 (upd (upd (M 9) 2 x1) 3 x2))) (by funext q9; unfold up; by_cases e9 : q9 = 9 <;> simp [e9]) ?_
  refine Ev.steps 2 (pc' := 12) (L' := [some (.ref 9), some (.int x1), some (.int x2), some (.int 0), none]) (st' := []) rfl ?_
  exact Ev.weak [some (.ref 9), some (.int x1), some (.int x2), some (.int 0), none] (gw_leb_le ⟨rfl, rfl, rfl, rfl, trivial⟩) H

theorem w37_12 {E : gw_N} {M : Mem} {res : Option Value × gw_H} {x1 : Int32} {x2 : Int32} {x3 : Int32} (H : ((x2 ≤ x3 → res = (none, hs E M)) ∧ (¬ x2 ≤ x3 → ((8 ≤ x3 → res = (none, hs E M)) ∧ (¬ 8 ≤ x3 → Ev 1 37 26 [some (.ref 9), some (.int x1), some (.int x2), some (.int x3), some (.int 0)] [] (hs E M) res))))) : Ev 1 37 12 [some (.ref 9), some (.int x1), some (.int x2), some (.int x3), none] [] (hs E M) res := by
  refine Ev.steps 3 (pc' := if x2 ≤ x3 then 76 else 17) (L' := [some (.ref 9), some (.int x1), some (.int x2), some (.int x3), none]) (st' := []) rfl ?_
  refine Ev_ite (fun hc => ?_) (fun hc => ?_)
  · replace H := H.1 hc
    subst H
    exact Ev.ret rfl
  · replace H := H.2 hc
    refine Ev.steps 3 (pc' := if 8 ≤ x3 then 76 else 23) (L' := [some (.ref 9), some (.int x1), some (.int x2), some (.int x3), none]) (st' := []) rfl ?_
    refine Ev_ite (fun hc => ?_) (fun hc => ?_)
    · replace H := H.1 hc
      subst H
      exact Ev.ret rfl
    · replace H := H.2 hc
      refine Ev.steps 2 (pc' := 26) (L' := [some (.ref 9), some (.int x1), some (.int x2), some (.int x3), some (.int 0)]) (st' := []) rfl ?_
      exact Ev.weak [some (.ref 9), some (.int x1), some (.int x2), some (.int x3), some (.int 0)] (gw_leb_le ⟨rfl, rfl, rfl, rfl, rfl, trivial⟩) H

theorem w37_26 {E : gw_N} {M : Mem} {res : Option Value × gw_H} {x1 : Int32} {x2 : Int32} {x3 : Int32} {x4 : Int32} (H : ((x1 ≤ x4 → Ev 1 37 12 [some (.ref 9), some (.int x1), some (.int x2), some (.int (x3 + 1)), none] [] (hs E M) res) ∧ (¬ x1 ≤ x4 → ((8 ≤ x4 → Ev 1 37 12 [some (.ref 9), some (.int x1), some (.int x2), some (.int (x3 + 1)), none] [] (hs E M) res) ∧ (¬ 8 ≤ x4 → (inb ((x1 * x3) + x4) 64 ∧ (inb ((x1 * x3) + x4) 64 ∧ Ev 1 37 26 [some (.ref 9), some (.int x1), some (.int x2), some (.int x3), some (.int (x4 + 1))] [] (hs E (up (up M 10 (upd (M 10) (((x1 * x3) + x4) : Int32).toNatClampNeg x4)) 11 (upd (M 11) (((x1 * x3) + x4) : Int32).toNatClampNeg x3))) res))))))) : Ev 1 37 26 [some (.ref 9), some (.int x1), some (.int x2), some (.int x3), some (.int x4)] [] (hs E M) res := by
  refine Ev.steps 3 (pc' := if x1 ≤ x4 then 70 else 32) (L' := [some (.ref 9), some (.int x1), some (.int x2), some (.int x3), some (.int x4)]) (st' := []) rfl ?_
  refine Ev_ite (fun hc => ?_) (fun hc => ?_)
  · replace H := H.1 hc
    refine Ev.steps 2 (pc' := 12) (L' := [some (.ref 9), some (.int x1), some (.int x2), some (.int (x3 + 1)), some (.int x4)]) (st' := []) rfl ?_
    exact Ev.weak [some (.ref 9), some (.int x1), some (.int x2), some (.int (x3 + 1)), none] (gw_leb_le ⟨rfl, rfl, rfl, rfl, trivial⟩) H
  · replace H := H.2 hc
    refine Ev.steps 3 (pc' := if 8 ≤ x4 then 70 else 39) (L' := [some (.ref 9), some (.int x1), some (.int x2), some (.int x3), some (.int x4)]) (st' := []) rfl ?_
    refine Ev_ite (fun hc => ?_) (fun hc => ?_)
    · replace H := H.1 hc
      refine Ev.steps 2 (pc' := 12) (L' := [some (.ref 9), some (.int x1), some (.int x2), some (.int (x3 + 1)), some (.int x4)]) (st' := []) rfl ?_
      exact Ev.weak [some (.ref 9), some (.int x1), some (.int x2), some (.int (x3 + 1)), none] (gw_leb_le ⟨rfl, rfl, rfl, rfl, trivial⟩) H
    · replace H := H.2 hc
      refine Ev.steps 8 (pc' := 51) (L' := [some (.ref 9), some (.int x1), some (.int x2), some (.int x3), some (.int x4)]) (st' := [.int x4, .int ((x1 * x3) + x4), .ref 10]) rfl ?_
      refine Ev.wr (a := 10) (g := (upd (M 10) (((x1 * x3) + x4) : Int32).toNatClampNeg x4)) (i := ((x1 * x3) + x4)) (n := 64) (pc' := 52) (L' := [some (.ref 9), some (.int x1), some (.int x2), some (.int x3), some (.int x4)]) (st' := []) (by decide) H.1 rfl ?_
      replace H := H.2
      refine Ev.steps 8 (pc' := 63) (L' := [some (.ref 9), some (.int x1), some (.int x2), some (.int x3), some (.int x4)]) (st' := [.int x3, .int ((x1 * x3) + x4), .ref 11]) rfl ?_
      refine Ev.wr (a := 11) (g := (upd (M 11) (((x1 * x3) + x4) : Int32).toNatClampNeg x3)) (i := ((x1 * x3) + x4)) (n := 64) (pc' := 64) (L' := [some (.ref 9), some (.int x1), some (.int x2), some (.int x3), some (.int x4)]) (st' := []) (by decide) H.1 rfl ?_
      replace H := H.2
      refine Ev.steps 2 (pc' := 26) (L' := [some (.ref 9), some (.int x1), some (.int x2), some (.int x3), some (.int (x4 + 1))]) (st' := []) rfl ?_
      exact Ev.weak [some (.ref 9), some (.int x1), some (.int x2), some (.int x3), some (.int (x4 + 1))] (gw_leb_le ⟨rfl, rfl, rfl, rfl, rfl, trivial⟩) H

-- 69 GlassWires$Net edgesUnder (I)I
theorem w69_0 {E : gw_N} {M : Mem} {res : Option Value × gw_H} {x1 : Int32} (H : Ev 2 69 4 [some (.ref 22), some (.int x1), some (.int 0), some (.int 0)] [] (hs E M) res) : Ev 2 69 0 [some (.ref 22), some (.int x1), none, none] [] (hs E M) res := by
  refine Ev.steps 4 (pc' := 4) (L' := [some (.ref 22), some (.int x1), some (.int 0), some (.int 0)]) (st' := []) rfl ?_
  exact Ev.weak [some (.ref 22), some (.int x1), some (.int 0), some (.int 0)] (gw_leb_le ⟨rfl, rfl, rfl, rfl, trivial⟩) H

theorem w69_4 {E : gw_N} {M : Mem} {res : Option Value × gw_H} {x1 : Int32} {x2 : Int32} {x3 : Int32} (H : ((178 ≤ x3 → res = (some (.int x2), hs E M)) ∧ (¬ 178 ≤ x3 → (inb x3 178 ∧ ((((M 23) (x3 : Int32).toNatClampNeg) < x1 → (∃ (r1 : Int32), Rn 206 [.int 0] (hs E M) (some (.int r1)) (hs E M) ∧ Ev 2 69 4 [some (.ref 22), some (.int x1), some (.int (x2 + r1)), some (.int (x3 + 1))] [] (hs E M) res)) ∧ (¬ ((M 23) (x3 : Int32).toNatClampNeg) < x1 → (∃ (r2 : Int32), Rn 206 [.int 1] (hs E M) (some (.int r2)) (hs E M) ∧ Ev 2 69 4 [some (.ref 22), some (.int x1), some (.int (x2 + r2)), some (.int (x3 + 1))] [] (hs E M) res))))))) : Ev 2 69 4 [some (.ref 22), some (.int x1), some (.int x2), some (.int x3)] [] (hs E M) res := by
  refine Ev.steps 3 (pc' := if 178 ≤ x3 then 38 else 11) (L' := [some (.ref 22), some (.int x1), some (.int x2), some (.int x3)]) (st' := []) rfl ?_
  refine Ev_ite (fun hc => ?_) (fun hc => ?_)
  · replace H := H.1 hc
    refine Ev.steps 1 (pc' := 39) (L' := [some (.ref 22), some (.int x1), some (.int x2), some (.int x3)]) (st' := [.int x2]) rfl ?_
    subst H
    exact Ev.ret rfl
  · replace H := H.2 hc
    refine Ev.steps 4 (pc' := 17) (L' := [some (.ref 22), some (.int x1), some (.int x2), some (.int x3)]) (st' := [.int x3, .ref 23, .int x2]) rfl ?_
    refine Ev.rd (i := x3) (n := 178) (pc' := 18) (L' := [some (.ref 22), some (.int x1), some (.int x2), some (.int x3)]) (st' := [.int ((M 23) (x3 : Int32).toNatClampNeg), .int x2]) H.1 rfl ?_
    replace H := H.2
    refine Ev.steps 2 (pc' := if ((M 23) (x3 : Int32).toNatClampNeg) < x1 then 26 else 22) (L' := [some (.ref 22), some (.int x1), some (.int x2), some (.int x3)]) (st' := [.int x2]) rfl ?_
    refine Ev_ite (fun hc => ?_) (fun hc => ?_)
    · replace H := H.1 hc
      refine Ev.steps 1 (pc' := 27) (L' := [some (.ref 22), some (.int x1), some (.int x2), some (.int x3)]) (st' := [.int 0, .int x2]) rfl ?_
      obtain ⟨r1, hr1, H⟩ := H
      refine Ev.call (y := 206) (args := [.int 0]) (rest := [.int x2]) (r := (some (.int r1))) rfl hr1 ?_
      show Ev 2 69 30 [some (.ref 22), some (.int x1), some (.int x2), some (.int x3)] [.int r1, .int x2] _ _
      refine Ev.steps 4 (pc' := 4) (L' := [some (.ref 22), some (.int x1), some (.int (x2 + r1)), some (.int (x3 + 1))]) (st' := []) rfl ?_
      exact Ev.weak [some (.ref 22), some (.int x1), some (.int (x2 + r1)), some (.int (x3 + 1))] (gw_leb_le ⟨rfl, rfl, rfl, rfl, trivial⟩) H
    · replace H := H.2 hc
      refine Ev.steps 2 (pc' := 27) (L' := [some (.ref 22), some (.int x1), some (.int x2), some (.int x3)]) (st' := [.int 1, .int x2]) rfl ?_
      obtain ⟨r2, hr2, H⟩ := H
      refine Ev.call (y := 206) (args := [.int 1]) (rest := [.int x2]) (r := (some (.int r2))) rfl hr2 ?_
      show Ev 2 69 30 [some (.ref 22), some (.int x1), some (.int x2), some (.int x3)] [.int r2, .int x2] _ _
      refine Ev.steps 4 (pc' := 4) (L' := [some (.ref 22), some (.int x1), some (.int (x2 + r2)), some (.int (x3 + 1))]) (st' := []) rfl ?_
      exact Ev.weak [some (.ref 22), some (.int x1), some (.int (x2 + r2)), some (.int (x3 + 1))] (gw_leb_le ⟨rfl, rfl, rfl, rfl, trivial⟩) H

-- 74 GlassWires$Net isCovered (III)Z
theorem w74_0 {E : gw_N} {M : Mem} {res : Option Value × gw_H} {x1 : Int32} {x2 : Int32} {x3 : Int32} (H : (∃ (r1 : Int32), Rn 53 [.int x3] (hs E M) (some (.int r1)) (hs E M) ∧ (∃ (r2 : Int32), Rn 54 [.int x3] (hs E M) (some (.int r2)) (hs E M) ∧ (∃ (r3 : Int32), Rn 41 [.ref 9, .int (x1 + r1), .int (x2 + r2)] (hs E M) (some (.int r3)) (hs E M) ∧ ((r3 = 0 → res = (some (.int 0), hs E M)) ∧ (¬ r3 = 0 → (∃ (r4 : Int32), Rn 52 [.int x1, .int x2, .int x3] (hs E M) (some (.int r4)) (hs E M) ∧ (inb r4 178 ∧ ((((M 23) (r4 : Int32).toNatClampNeg) ≤ 0 → res = (some (.int 0), hs E M)) ∧ (¬ ((M 23) (r4 : Int32).toNatClampNeg) ≤ 0 → res = (some (.int 1), hs E M))))))))))) : Ev 4 74 0 [some (.ref 22), some (.int x1), some (.int x2), some (.int x3)] [] (hs E M) res := by
  refine Ev.steps 4 (pc' := 6) (L' := [some (.ref 22), some (.int x1), some (.int x2), some (.int x3)]) (st' := [.int x3, .int x1, .ref 9]) rfl ?_
  obtain ⟨r1, hr1, H⟩ := H
  refine Ev.call (y := 53) (args := [.int x3]) (rest := [.int x1, .ref 9]) (r := (some (.int r1))) rfl hr1 ?_
  show Ev 4 74 9 [some (.ref 22), some (.int x1), some (.int x2), some (.int x3)] [.int r1, .int x1, .ref 9] _ _
  refine Ev.steps 3 (pc' := 12) (L' := [some (.ref 22), some (.int x1), some (.int x2), some (.int x3)]) (st' := [.int x3, .int x2, .int (x1 + r1), .ref 9]) rfl ?_
  obtain ⟨r2, hr2, H⟩ := H
  refine Ev.call (y := 54) (args := [.int x3]) (rest := [.int x2, .int (x1 + r1), .ref 9]) (r := (some (.int r2))) rfl hr2 ?_
  show Ev 4 74 15 [some (.ref 22), some (.int x1), some (.int x2), some (.int x3)] [.int r2, .int x2, .int (x1 + r1), .ref 9] _ _
  refine Ev.steps 1 (pc' := 16) (L' := [some (.ref 22), some (.int x1), some (.int x2), some (.int x3)]) (st' := [.int (x2 + r2), .int (x1 + r1), .ref 9]) rfl ?_
  obtain ⟨r3, hr3, H⟩ := H
  refine Ev.call (y := 41) (args := [.ref 9, .int (x1 + r1), .int (x2 + r2)]) (rest := []) (r := (some (.int r3))) rfl hr3 ?_
  show Ev 4 74 19 [some (.ref 22), some (.int x1), some (.int x2), some (.int x3)] [.int r3] _ _
  refine Ev.steps 1 (pc' := if r3 = 0 then 40 else 22) (L' := [some (.ref 22), some (.int x1), some (.int x2), some (.int x3)]) (st' := []) rfl ?_
  refine Ev_ite (fun hc => ?_) (fun hc => ?_)
  · replace H := H.1 hc
    refine Ev.steps 1 (pc' := 41) (L' := [some (.ref 22), some (.int x1), some (.int x2), some (.int x3)]) (st' := [.int 0]) rfl ?_
    subst H
    exact Ev.ret rfl
  · replace H := H.2 hc
    refine Ev.steps 5 (pc' := 29) (L' := [some (.ref 22), some (.int x1), some (.int x2), some (.int x3)]) (st' := [.int x3, .int x2, .int x1, .ref 23]) rfl ?_
    obtain ⟨r4, hr4, H⟩ := H
    refine Ev.call (y := 52) (args := [.int x1, .int x2, .int x3]) (rest := [.ref 23]) (r := (some (.int r4))) rfl hr4 ?_
    show Ev 4 74 32 [some (.ref 22), some (.int x1), some (.int x2), some (.int x3)] [.int r4, .ref 23] _ _
    refine Ev.rd (i := r4) (n := 178) (pc' := 33) (L' := [some (.ref 22), some (.int x1), some (.int x2), some (.int x3)]) (st' := [.int ((M 23) (r4 : Int32).toNatClampNeg)]) H.1 rfl ?_
    replace H := H.2
    refine Ev.steps 1 (pc' := if ((M 23) (r4 : Int32).toNatClampNeg) ≤ 0 then 40 else 36) (L' := [some (.ref 22), some (.int x1), some (.int x2), some (.int x3)]) (st' := []) rfl ?_
    refine Ev_ite (fun hc => ?_) (fun hc => ?_)
    · replace H := H.1 hc
      refine Ev.steps 1 (pc' := 41) (L' := [some (.ref 22), some (.int x1), some (.int x2), some (.int x3)]) (st' := [.int 0]) rfl ?_
      subst H
      exact Ev.ret rfl
    · replace H := H.2 hc
      refine Ev.steps 2 (pc' := 41) (L' := [some (.ref 22), some (.int x1), some (.int x2), some (.int x3)]) (st' := [.int 1]) rfl ?_
      subst H
      exact Ev.ret rfl

-- 83 GlassWires$Page wayAt (I)I
theorem w83_0 {E : gw_N} {M : Mem} {res : Option Value × gw_H} {x1 : Int32} (H : ((x1 < 0 → res = (some (.int (-1)), hs E M)) ∧ (¬ x1 < 0 → ((x1 < ((M 12) 1) → (inb x1 40 ∧ ((((M 13) (x1 : Int32).toNatClampNeg) = 100 → res = (some (.int 3), hs E M)) ∧ (((M 13) (x1 : Int32).toNatClampNeg) = 108 → res = (some (.int 2), hs E M)) ∧ (((M 13) (x1 : Int32).toNatClampNeg) = 114 → res = (some (.int 0), hs E M)) ∧ (((M 13) (x1 : Int32).toNatClampNeg) = 117 → res = (some (.int 1), hs E M)) ∧ (¬ ((M 13) (x1 : Int32).toNatClampNeg) = 100 → ¬ ((M 13) (x1 : Int32).toNatClampNeg) = 108 → ¬ ((M 13) (x1 : Int32).toNatClampNeg) = 114 → ¬ ((M 13) (x1 : Int32).toNatClampNeg) = 117 → res = (some (.int (-1)), hs E M))))) ∧ (¬ x1 < ((M 12) 1) → res = (some (.int (-1)), hs E M)))))) : Ev 1 83 0 [some (.ref 12), some (.int x1)] [] (hs E M) res := by
  refine Ev.steps 2 (pc' := if x1 < 0 then 12 else 4) (L' := [some (.ref 12), some (.int x1)]) (st' := []) rfl ?_
  refine Ev_ite (fun hc => ?_) (fun hc => ?_)
  · replace H := H.1 hc
    refine Ev.steps 1 (pc' := 13) (L' := [some (.ref 12), some (.int x1)]) (st' := [.int (-1)]) rfl ?_
    subst H
    exact Ev.ret rfl
  · replace H := H.2 hc
    refine Ev.steps 4 (pc' := if x1 < ((M 12) 1) then 14 else 12) (L' := [some (.ref 12), some (.int x1)]) (st' := []) rfl ?_
    refine Ev_ite (fun hc => ?_) (fun hc => ?_)
    · replace H := H.1 hc
      refine Ev.steps 3 (pc' := 19) (L' := [some (.ref 12), some (.int x1)]) (st' := [.int x1, .ref 13]) rfl ?_
      refine Ev.rd (i := x1) (n := 40) (pc' := 20) (L' := [some (.ref 12), some (.int x1)]) (st' := [.int ((M 13) (x1 : Int32).toNatClampNeg)]) H.1 rfl ?_
      replace H := H.2
      by_cases hw0 : ((M 13) (x1 : Int32).toNatClampNeg) = 100
      · replace H := H.1 hw0
        refine Ev.sw (p := ((20 : Nat) + Op.lookupswitch.offset [(100, 50), (108, 48), (114, 44), (117, 46)] 52 (((M 13) (x1 : Int32).toNatClampNeg) : Int32).toInt : Int).toNat) (pc' := 70) (L' := [some (.ref 12), some (.int x1)]) (st' := []) rfl (by rw [hw0]; decide +kernel) ?_
        refine Ev.steps 1 (pc' := 71) (L' := [some (.ref 12), some (.int x1)]) (st' := [.int 3]) rfl ?_
        subst H
        exact Ev.ret rfl
      replace H := H.2
      by_cases hw1 : ((M 13) (x1 : Int32).toNatClampNeg) = 108
      · replace H := H.1 hw1
        refine Ev.sw (p := ((20 : Nat) + Op.lookupswitch.offset [(100, 50), (108, 48), (114, 44), (117, 46)] 52 (((M 13) (x1 : Int32).toNatClampNeg) : Int32).toInt : Int).toNat) (pc' := 68) (L' := [some (.ref 12), some (.int x1)]) (st' := []) rfl (by rw [hw1]; decide +kernel) ?_
        refine Ev.steps 1 (pc' := 69) (L' := [some (.ref 12), some (.int x1)]) (st' := [.int 2]) rfl ?_
        subst H
        exact Ev.ret rfl
      replace H := H.2
      by_cases hw2 : ((M 13) (x1 : Int32).toNatClampNeg) = 114
      · replace H := H.1 hw2
        refine Ev.sw (p := ((20 : Nat) + Op.lookupswitch.offset [(100, 50), (108, 48), (114, 44), (117, 46)] 52 (((M 13) (x1 : Int32).toNatClampNeg) : Int32).toInt : Int).toNat) (pc' := 64) (L' := [some (.ref 12), some (.int x1)]) (st' := []) rfl (by rw [hw2]; decide +kernel) ?_
        refine Ev.steps 1 (pc' := 65) (L' := [some (.ref 12), some (.int x1)]) (st' := [.int 0]) rfl ?_
        subst H
        exact Ev.ret rfl
      replace H := H.2
      by_cases hw3 : ((M 13) (x1 : Int32).toNatClampNeg) = 117
      · replace H := H.1 hw3
        refine Ev.sw (p := ((20 : Nat) + Op.lookupswitch.offset [(100, 50), (108, 48), (114, 44), (117, 46)] 52 (((M 13) (x1 : Int32).toNatClampNeg) : Int32).toInt : Int).toNat) (pc' := 66) (L' := [some (.ref 12), some (.int x1)]) (st' := []) rfl (by rw [hw3]; decide +kernel) ?_
        refine Ev.steps 1 (pc' := 67) (L' := [some (.ref 12), some (.int x1)]) (st' := [.int 1]) rfl ?_
        subst H
        exact Ev.ret rfl
      replace H := H.2
      replace H := H hw0 hw1 hw2 hw3
      refine Ev.sw (p := ((20 : Nat) + Op.lookupswitch.offset [(100, 50), (108, 48), (114, 44), (117, 46)] 52 (((M 13) (x1 : Int32).toNatClampNeg) : Int32).toInt : Int).toNat) (pc' := 72) (L' := [some (.ref 12), some (.int x1)]) (st' := []) rfl ((by rw [lookupswitch.offset_cons, if_neg (gw_ls_ne (v := 100) (by decide +kernel) hw0), lookupswitch.offset_cons, if_neg (gw_ls_ne (v := 108) (by decide +kernel) hw1), lookupswitch.offset_cons, if_neg (gw_ls_ne (v := 114) (by decide +kernel) hw2), lookupswitch.offset_cons, if_neg (gw_ls_ne (v := 117) (by decide +kernel) hw3), lookupswitch.offset_nil]; decide +kernel)) ?_
      refine Ev.steps 1 (pc' := 73) (L' := [some (.ref 12), some (.int x1)]) (st' := [.int (-1)]) rfl ?_
      subst H
      exact Ev.ret rfl
    · replace H := H.2 hc
      refine Ev.steps 1 (pc' := 13) (L' := [some (.ref 12), some (.int x1)]) (st' := [.int (-1)]) rfl ?_
      subst H
      exact Ev.ret rfl

-- 98 GlassWires$Palette setRule (II)I
theorem w98_0 {E : gw_N} {M : Mem} {res : Option Value × gw_H} {x1 : Int32} {x2 : Int32} (H : ((x2 < 1 → res = (some (.int (-102)), hs E M)) ∧ (¬ x2 < 1 → (inb x1 3 ∧ ((x2 ≤ ((gw_rcL E.1.1 E.1.2 4).2 (x1 : Int32).toNatClampNeg) → (inb x1 3 ∧ (inb x1 3 ∧ res = (some (.int ((M 43) (x1 : Int32).toNatClampNeg)), hs E (up M 43 (upd (M 43) (x1 : Int32).toNatClampNeg x2)))))) ∧ (¬ x2 ≤ ((gw_rcL E.1.1 E.1.2 4).2 (x1 : Int32).toNatClampNeg) → res = (some (.int (-102)), hs E M))))))) : Ev 1 98 0 [some (.ref 40), some (.int x1), some (.int x2), none] [] (hs E M) res := by
  refine Ev.steps 3 (pc' := if x2 < 1 then 14 else 5) (L' := [some (.ref 40), some (.int x1), some (.int x2), none]) (st' := []) rfl ?_
  refine Ev_ite (fun hc => ?_) (fun hc => ?_)
  · replace H := H.1 hc
    refine Ev.steps 1 (pc' := 16) (L' := [some (.ref 40), some (.int x1), some (.int x2), none]) (st' := [.int (-102)]) rfl ?_
    subst H
    exact Ev.ret rfl
  · replace H := H.2 hc
    refine Ev.steps 3 (pc' := 10) (L' := [some (.ref 40), some (.int x1), some (.int x2), none]) (st' := [.int x1, .ref 4, .int x2]) rfl ?_
    refine Ev.rd (i := x1) (n := 3) (pc' := 11) (L' := [some (.ref 40), some (.int x1), some (.int x2), none]) (st' := [.int ((gw_rcL E.1.1 E.1.2 4).2 (x1 : Int32).toNatClampNeg), .int x2]) H.1 rfl ?_
    replace H := H.2
    refine Ev.steps 1 (pc' := if x2 ≤ ((gw_rcL E.1.1 E.1.2 4).2 (x1 : Int32).toNatClampNeg) then 17 else 14) (L' := [some (.ref 40), some (.int x1), some (.int x2), none]) (st' := []) rfl ?_
    refine Ev_ite (fun hc => ?_) (fun hc => ?_)
    · replace H := H.1 hc
      refine Ev.steps 3 (pc' := 22) (L' := [some (.ref 40), some (.int x1), some (.int x2), none]) (st' := [.int x1, .ref 43]) rfl ?_
      refine Ev.rd (i := x1) (n := 3) (pc' := 23) (L' := [some (.ref 40), some (.int x1), some (.int x2), none]) (st' := [.int ((M 43) (x1 : Int32).toNatClampNeg)]) H.1 rfl ?_
      replace H := H.2
      refine Ev.steps 5 (pc' := 30) (L' := [some (.ref 40), some (.int x1), some (.int x2), some (.int ((M 43) (x1 : Int32).toNatClampNeg))]) (st' := [.int x2, .int x1, .ref 43]) rfl ?_
      refine Ev.wr (a := 43) (g := (upd (M 43) (x1 : Int32).toNatClampNeg x2)) (i := x1) (n := 3) (pc' := 31) (L' := [some (.ref 40), some (.int x1), some (.int x2), some (.int ((M 43) (x1 : Int32).toNatClampNeg))]) (st' := []) (by decide) H.1 rfl ?_
      replace H := H.2
      refine Ev.steps 1 (pc' := 32) (L' := [some (.ref 40), some (.int x1), some (.int x2), some (.int ((M 43) (x1 : Int32).toNatClampNeg))]) (st' := [.int ((M 43) (x1 : Int32).toNatClampNeg)]) rfl ?_
      subst H
      exact Ev.ret rfl
    · replace H := H.2 hc
      refine Ev.steps 1 (pc' := 16) (L' := [some (.ref 40), some (.int x1), some (.int x2), none]) (st' := [.int (-102)]) rfl ?_
      subst H
      exact Ev.ret rfl

-- 161 GlassWires plate (II)I
theorem w161_0 {E : gw_N} {M : Mem} {res : Option Value × gw_H} {x1 : Int32} {x2 : Int32} (H : (∃ (r1 : Int32), Rn 36 [.int x1] (hs E M) (some (.int r1)) (hs E M) ∧ ((r1 = 0 → res = (some (.int (-102)), hs E M)) ∧ (¬ r1 = 0 → (∃ (r2 : Int32), Rn 36 [.int x2] (hs E M) (some (.int r2)) (hs E M) ∧ ((r2 = 0 → res = (some (.int (-102)), hs E M)) ∧ (¬ r2 = 0 → (∃ (M3 : Mem), Rn 37 [.ref 9, .int x1, .int x2] (hs E M) none (hs E M3) ∧ (∃ (M4 : Mem), Rn 142 [.ref 14] (hs E M3) none (hs E M4) ∧ (∃ (M5 : Mem), Rn 9 [.ref 44] (hs E M4) none (hs E M5) ∧ (∃ (M6 : Mem), Rn 129 [.ref 53, .int 0, .int 0] (hs E M5) none (hs E M6) ∧ (∃ (M7 : Mem), Rn 118 [.ref 54] (hs E M6) none (hs E M7) ∧ (∃ (M8 : Mem), Rn 203 [.ref 8] (hs E M7) none (hs E M8) ∧ (∃ (r9 : Int32), Rn 40 [.ref 9] (hs E M8) (some (.int r9)) (hs E M8) ∧ res = (some (.int r9), hs E M8))))))))))))))) : Ev 7 161 0 [some (.ref 8), some (.int x1), some (.int x2)] [] (hs E M) res := by
  refine Ev.steps 1 (pc' := 1) (L' := [some (.ref 8), some (.int x1), some (.int x2)]) (st' := [.int x1]) rfl ?_
  obtain ⟨r1, hr1, H⟩ := H
  refine Ev.call (y := 36) (args := [.int x1]) (rest := []) (r := (some (.int r1))) rfl hr1 ?_
  show Ev 7 161 4 [some (.ref 8), some (.int x1), some (.int x2)] [.int r1] _ _
  refine Ev.steps 1 (pc' := if r1 = 0 then 14 else 7) (L' := [some (.ref 8), some (.int x1), some (.int x2)]) (st' := []) rfl ?_
  refine Ev_ite (fun hc => ?_) (fun hc => ?_)
  · replace H := H.1 hc
    refine Ev.steps 1 (pc' := 16) (L' := [some (.ref 8), some (.int x1), some (.int x2)]) (st' := [.int (-102)]) rfl ?_
    subst H
    exact Ev.ret rfl
  · replace H := H.2 hc
    refine Ev.steps 1 (pc' := 8) (L' := [some (.ref 8), some (.int x1), some (.int x2)]) (st' := [.int x2]) rfl ?_
    obtain ⟨r2, hr2, H⟩ := H
    refine Ev.call (y := 36) (args := [.int x2]) (rest := []) (r := (some (.int r2))) rfl hr2 ?_
    show Ev 7 161 11 [some (.ref 8), some (.int x1), some (.int x2)] [.int r2] _ _
    refine Ev.steps 1 (pc' := if r2 = 0 then 14 else 17) (L' := [some (.ref 8), some (.int x1), some (.int x2)]) (st' := []) rfl ?_
    refine Ev_ite (fun hc => ?_) (fun hc => ?_)
    · replace H := H.1 hc
      refine Ev.steps 1 (pc' := 16) (L' := [some (.ref 8), some (.int x1), some (.int x2)]) (st' := [.int (-102)]) rfl ?_
      subst H
      exact Ev.ret rfl
    · replace H := H.2 hc
      refine Ev.steps 4 (pc' := 23) (L' := [some (.ref 8), some (.int x1), some (.int x2)]) (st' := [.int x2, .int x1, .ref 9]) rfl ?_
      obtain ⟨M3, hr3, H⟩ := H
      refine Ev.call (y := 37) (args := [.ref 9, .int x1, .int x2]) (rest := []) (r := none) rfl hr3 ?_
      show Ev 7 161 26 [some (.ref 8), some (.int x1), some (.int x2)] [] _ _
      refine Ev.steps 2 (pc' := 30) (L' := [some (.ref 8), some (.int x1), some (.int x2)]) (st' := [.ref 14]) rfl ?_
      obtain ⟨M4, hr4, H⟩ := H
      refine Ev.call (y := 142) (args := [.ref 14]) (rest := []) (r := none) rfl hr4 ?_
      show Ev 7 161 33 [some (.ref 8), some (.int x1), some (.int x2)] [] _ _
      refine Ev.steps 2 (pc' := 37) (L' := [some (.ref 8), some (.int x1), some (.int x2)]) (st' := [.ref 44]) rfl ?_
      obtain ⟨M5, hr5, H⟩ := H
      refine Ev.call (y := 9) (args := [.ref 44]) (rest := []) (r := none) rfl hr5 ?_
      show Ev 7 161 40 [some (.ref 8), some (.int x1), some (.int x2)] [] _ _
      refine Ev.steps 4 (pc' := 46) (L' := [some (.ref 8), some (.int x1), some (.int x2)]) (st' := [.int 0, .int 0, .ref 53]) rfl ?_
      obtain ⟨M6, hr6, H⟩ := H
      refine Ev.call (y := 129) (args := [.ref 53, .int 0, .int 0]) (rest := []) (r := none) rfl hr6 ?_
      show Ev 7 161 49 [some (.ref 8), some (.int x1), some (.int x2)] [] _ _
      refine Ev.steps 2 (pc' := 53) (L' := [some (.ref 8), some (.int x1), some (.int x2)]) (st' := [.ref 54]) rfl ?_
      obtain ⟨M7, hr7, H⟩ := H
      refine Ev.call (y := 118) (args := [.ref 54]) (rest := []) (r := none) rfl hr7 ?_
      show Ev 7 161 56 [some (.ref 8), some (.int x1), some (.int x2)] [] _ _
      refine Ev.steps 1 (pc' := 57) (L' := [some (.ref 8), some (.int x1), some (.int x2)]) (st' := [.ref 8]) rfl ?_
      obtain ⟨M8, hr8, H⟩ := H
      refine Ev.call (y := 203) (args := [.ref 8]) (rest := []) (r := none) rfl hr8 ?_
      show Ev 7 161 60 [some (.ref 8), some (.int x1), some (.int x2)] [] _ _
      refine Ev.steps 2 (pc' := 64) (L' := [some (.ref 8), some (.int x1), some (.int x2)]) (st' := [.ref 9]) rfl ?_
      obtain ⟨r9, hr9, H⟩ := H
      refine Ev.call (y := 40) (args := [.ref 9]) (rest := []) (r := (some (.int r9))) rfl hr9 ?_
      show Ev 7 161 67 [some (.ref 8), some (.int x1), some (.int x2)] [.int r9] _ _
      subst H
      exact Ev.ret rfl

-- 168 GlassWires about (II)I
theorem w168_0 {E : gw_N} {M : Mem} {res : Option Value × gw_H} {x1 : Int32} {x2 : Int32} (H : (∃ (r1 : Int32), Rn 144 [.ref 14, .int x1] (hs E M) (some (.int r1)) (hs E M) ∧ ((r1 = 0 → res = (some (.int (-101)), hs E M)) ∧ (¬ r1 = 0 → ((x2 = 0 → (∃ (r2 : Int32), Rn 149 [.ref 14, .int x1] (hs E M) (some (.int r2)) (hs E M) ∧ res = (some (.int r2), hs E M))) ∧ (x2 = 1 → (∃ (r3 : Int32), Rn 150 [.ref 14, .int x1] (hs E M) (some (.int r3)) (hs E M) ∧ res = (some (.int r3), hs E M))) ∧ (x2 = 2 → (∃ (r4 : Int32), Rn 152 [.ref 14, .int x1] (hs E M) (some (.int r4)) (hs E M) ∧ (∃ (r5 : Int32), Rn 206 [.int r4] (hs E M) (some (.int r5)) (hs E M) ∧ res = (some (.int r5), hs E M)))) ∧ (x2 = 3 → (∃ (r6 : Int32), Rn 151 [.ref 14, .int x1] (hs E M) (some (.int r6)) (hs E M) ∧ res = (some (.int r6), hs E M))) ∧ (x2 = 4 → (∃ (r7 : Int32), Rn 64 [.ref 22, .int x1] (hs E M) (some (.int r7)) (hs E M) ∧ (∃ (r8 : Int32), Rn 206 [.int r7] (hs E M) (some (.int r8)) (hs E M) ∧ res = (some (.int r8), hs E M)))) ∧ (¬ x2 = 0 → ¬ x2 = 1 → ¬ x2 = 2 → ¬ x2 = 3 → ¬ x2 = 4 → res = (some (.int (-102)), hs E M))))))) : Ev 3 168 0 [some (.ref 8), some (.int x1), some (.int x2)] [] (hs E M) res := by
  refine Ev.steps 3 (pc' := 5) (L' := [some (.ref 8), some (.int x1), some (.int x2)]) (st' := [.int x1, .ref 14]) rfl ?_
  obtain ⟨r1, hr1, H⟩ := H
  refine Ev.call (y := 144) (args := [.ref 14, .int x1]) (rest := []) (r := (some (.int r1))) rfl hr1 ?_
  show Ev 3 168 8 [some (.ref 8), some (.int x1), some (.int x2)] [.int r1] _ _
  refine Ev.steps 1 (pc' := if r1 = 0 then 11 else 14) (L' := [some (.ref 8), some (.int x1), some (.int x2)]) (st' := []) rfl ?_
  refine Ev_ite (fun hc => ?_) (fun hc => ?_)
  · replace H := H.1 hc
    refine Ev.steps 1 (pc' := 13) (L' := [some (.ref 8), some (.int x1), some (.int x2)]) (st' := [.int (-101)]) rfl ?_
    subst H
    exact Ev.ret rfl
  · replace H := H.2 hc
    refine Ev.steps 1 (pc' := 15) (L' := [some (.ref 8), some (.int x1), some (.int x2)]) (st' := [.int x2]) rfl ?_
    by_cases hw0 : x2 = 0
    · replace H := H.1 hw0
      refine Ev.sw (p := gw_tsw 15 84 0 4 #[33, 42, 51, 63, 72] x2) (pc' := 48) (L' := [some (.ref 8), some (.int x1), some (.int x2)]) (st' := []) rfl (by rw [hw0]; decide +kernel) ?_
      refine Ev.steps 3 (pc' := 53) (L' := [some (.ref 8), some (.int x1), some (.int x2)]) (st' := [.int x1, .ref 14]) rfl ?_
      obtain ⟨r2, hr2, H⟩ := H
      refine Ev.call (y := 149) (args := [.ref 14, .int x1]) (rest := []) (r := (some (.int r2))) rfl hr2 ?_
      show Ev 3 168 56 [some (.ref 8), some (.int x1), some (.int x2)] [.int r2] _ _
      subst H
      exact Ev.ret rfl
    replace H := H.2
    by_cases hw1 : x2 = 1
    · replace H := H.1 hw1
      refine Ev.sw (p := gw_tsw 15 84 0 4 #[33, 42, 51, 63, 72] x2) (pc' := 57) (L' := [some (.ref 8), some (.int x1), some (.int x2)]) (st' := []) rfl (by rw [hw1]; decide +kernel) ?_
      refine Ev.steps 3 (pc' := 62) (L' := [some (.ref 8), some (.int x1), some (.int x2)]) (st' := [.int x1, .ref 14]) rfl ?_
      obtain ⟨r3, hr3, H⟩ := H
      refine Ev.call (y := 150) (args := [.ref 14, .int x1]) (rest := []) (r := (some (.int r3))) rfl hr3 ?_
      show Ev 3 168 65 [some (.ref 8), some (.int x1), some (.int x2)] [.int r3] _ _
      subst H
      exact Ev.ret rfl
    replace H := H.2
    by_cases hw2 : x2 = 2
    · replace H := H.1 hw2
      refine Ev.sw (p := gw_tsw 15 84 0 4 #[33, 42, 51, 63, 72] x2) (pc' := 66) (L' := [some (.ref 8), some (.int x1), some (.int x2)]) (st' := []) rfl (by rw [hw2]; decide +kernel) ?_
      refine Ev.steps 3 (pc' := 71) (L' := [some (.ref 8), some (.int x1), some (.int x2)]) (st' := [.int x1, .ref 14]) rfl ?_
      obtain ⟨r4, hr4, H⟩ := H
      refine Ev.call (y := 152) (args := [.ref 14, .int x1]) (rest := []) (r := (some (.int r4))) rfl hr4 ?_
      show Ev 3 168 74 [some (.ref 8), some (.int x1), some (.int x2)] [.int r4] _ _
      obtain ⟨r5, hr5, H⟩ := H
      refine Ev.call (y := 206) (args := [.int r4]) (rest := []) (r := (some (.int r5))) rfl hr5 ?_
      show Ev 3 168 77 [some (.ref 8), some (.int x1), some (.int x2)] [.int r5] _ _
      subst H
      exact Ev.ret rfl
    replace H := H.2
    by_cases hw3 : x2 = 3
    · replace H := H.1 hw3
      refine Ev.sw (p := gw_tsw 15 84 0 4 #[33, 42, 51, 63, 72] x2) (pc' := 78) (L' := [some (.ref 8), some (.int x1), some (.int x2)]) (st' := []) rfl (by rw [hw3]; decide +kernel) ?_
      refine Ev.steps 3 (pc' := 83) (L' := [some (.ref 8), some (.int x1), some (.int x2)]) (st' := [.int x1, .ref 14]) rfl ?_
      obtain ⟨r6, hr6, H⟩ := H
      refine Ev.call (y := 151) (args := [.ref 14, .int x1]) (rest := []) (r := (some (.int r6))) rfl hr6 ?_
      show Ev 3 168 86 [some (.ref 8), some (.int x1), some (.int x2)] [.int r6] _ _
      subst H
      exact Ev.ret rfl
    replace H := H.2
    by_cases hw4 : x2 = 4
    · replace H := H.1 hw4
      refine Ev.sw (p := gw_tsw 15 84 0 4 #[33, 42, 51, 63, 72] x2) (pc' := 87) (L' := [some (.ref 8), some (.int x1), some (.int x2)]) (st' := []) rfl (by rw [hw4]; decide +kernel) ?_
      refine Ev.steps 3 (pc' := 92) (L' := [some (.ref 8), some (.int x1), some (.int x2)]) (st' := [.int x1, .ref 22]) rfl ?_
      obtain ⟨r7, hr7, H⟩ := H
      refine Ev.call (y := 64) (args := [.ref 22, .int x1]) (rest := []) (r := (some (.int r7))) rfl hr7 ?_
      show Ev 3 168 95 [some (.ref 8), some (.int x1), some (.int x2)] [.int r7] _ _
      obtain ⟨r8, hr8, H⟩ := H
      refine Ev.call (y := 206) (args := [.int r7]) (rest := []) (r := (some (.int r8))) rfl hr8 ?_
      show Ev 3 168 98 [some (.ref 8), some (.int x1), some (.int x2)] [.int r8] _ _
      subst H
      exact Ev.ret rfl
    replace H := H.2
    replace H := H hw0 hw1 hw2 hw3 hw4
    refine Ev.sw (p := gw_tsw 15 84 0 4 #[33, 42, 51, 63, 72] x2) (pc' := 99) (L' := [some (.ref 8), some (.int x1), some (.int x2)]) (st' := []) rfl (gw_ts_df (by decide +kernel) (by
      intro k h1 h2
      have h3 : k = 0 ∨ k = 1 ∨ k = 2 ∨ k = 3 ∨ k = 4 := by omega
      rcases h3 with rfl | rfl | rfl | rfl | rfl
      · exact fun h => hw0 (h.trans (by decide +kernel))
      · exact fun h => hw1 (h.trans (by decide +kernel))
      · exact fun h => hw2 (h.trans (by decide +kernel))
      · exact fun h => hw3 (h.trans (by decide +kernel))
      · exact fun h => hw4 (h.trans (by decide +kernel)))) ?_
    refine Ev.steps 1 (pc' := 101) (L' := [some (.ref 8), some (.int x1), some (.int x2)]) (st' := [.int (-102)]) rfl ?_
    subst H
    exact Ev.ret rfl

-- 210 GlassWiresModel begin (II)V
theorem w210_0 {E : gw_N} {M : Mem} {res : Option Value × gw_H} {x1 : Int32} {x2 : Int32} (H : Ev 1 210 17 [some (.ref 59), none, none, some (.int 0)] [] (hs E (up M 59 (upd (upd (upd (M 59) 0 x1) 1 x2) 4 0))) res) : Ev 1 210 0 [some (.ref 59), some (.int x1), some (.int x2), none] [] (hs E M) res := by
  refine Ev.steps 2 (pc' := 2) (L' := [some (.ref 59), some (.int x1), some (.int x2), none]) (st' := [.int x1, .ref 59]) rfl ?_
  refine Ev.mem (a := 59) (g := (upd (M 59) 0 x1)) (pc' := 5) (L' := [some (.ref 59), some (.int x1), some (.int x2), none]) (st' := []) (by decide) rfl ?_
  refine Ev.steps 2 (pc' := 7) (L' := [some (.ref 59), some (.int x1), some (.int x2), none]) (st' := [.int x2, .ref 59]) rfl ?_
  refine Ev.mem (a := 59) (g := (upd (upd (M 59) 0 x1) 1 x2)) (pc' := 10) (L' := [some (.ref 59), some (.int x1), some (.int x2), none]) (st' := []) (by decide) rfl ?_
  refine Ev.mto (M' := (up M 59 (upd (upd (M 59) 0 x1) 1 x2))) (by funext q9; unfold up; by_cases e9 : q9 = 59 <;> simp [e9]) ?_
  refine Ev.steps 2 (pc' := 12) (L' := [some (.ref 59), some (.int x1), some (.int x2), none]) (st' := [.int 0, .ref 59]) rfl ?_
  refine Ev.mem (a := 59) (g := (upd (upd (upd (M 59) 0 x1) 1 x2) 4 0)) (pc' := 15) (L' := [some (.ref 59), some (.int x1), some (.int x2), none]) (st' := []) (by decide) rfl ?_
  refine Ev.mto (M' := (up M 59 (upd (upd (upd (M 59) 0 x1) 1 x2) 4 0))) (by funext q9; unfold up; by_cases e9 : q9 = 59 <;> simp [e9]) ?_
  refine Ev.steps 2 (pc' := 17) (L' := [some (.ref 59), some (.int x1), some (.int x2), some (.int 0)]) (st' := []) rfl ?_
  exact Ev.weak [some (.ref 59), none, none, some (.int 0)] (gw_leb_le ⟨rfl, rfl, trivial⟩) H

theorem w210_17 {E : gw_N} {M : Mem} {res : Option Value × gw_H} {x3 : Int32} (H : ((64 ≤ x3 → res = (none, hs E (up M 59 (upd (upd (upd (upd (M 59) 34 0) 35 0) 29 0) 36 0)))) ∧ (¬ 64 ≤ x3 → (inb x3 64 ∧ Ev 1 210 17 [some (.ref 59), none, none, some (.int (x3 + 1))] [] (hs E (up M 77 (upd (M 77) (x3 : Int32).toNatClampNeg 0))) res)))) : Ev 1 210 17 [some (.ref 59), none, none, some (.int x3)] [] (hs E M) res := by
  refine Ev.steps 3 (pc' := if 64 ≤ x3 then 36 else 23) (L' := [some (.ref 59), none, none, some (.int x3)]) (st' := []) rfl ?_
  refine Ev_ite (fun hc => ?_) (fun hc => ?_)
  · replace H := H.1 hc
    refine Ev.steps 2 (pc' := 38) (L' := [some (.ref 59), none, none, some (.int x3)]) (st' := [.int 0, .ref 59]) rfl ?_
    refine Ev.mem (a := 59) (g := (upd (M 59) 34 0)) (pc' := 41) (L' := [some (.ref 59), none, none, some (.int x3)]) (st' := []) (by decide) rfl ?_
    refine Ev.steps 2 (pc' := 43) (L' := [some (.ref 59), none, none, some (.int x3)]) (st' := [.int 0, .ref 59]) rfl ?_
    refine Ev.mem (a := 59) (g := (upd (upd (M 59) 34 0) 35 0)) (pc' := 46) (L' := [some (.ref 59), none, none, some (.int x3)]) (st' := []) (by decide) rfl ?_
    refine Ev.mto (M' := (up M 59 (upd (upd (M 59) 34 0) 35 0))) (by funext q9; unfold up; by_cases e9 : q9 = 59 <;> simp [e9]) ?_
    refine Ev.steps 2 (pc' := 48) (L' := [some (.ref 59), none, none, some (.int x3)]) (st' := [.int 0, .ref 59]) rfl ?_
    refine Ev.mem (a := 59) (g := (upd (upd (upd (M 59) 34 0) 35 0) 29 0)) (pc' := 51) (L' := [some (.ref 59), none, none, some (.int x3)]) (st' := []) (by decide) rfl ?_
    refine Ev.mto (M' := (up M 59 (upd (upd (upd (M 59) 34 0) 35 0) 29 0))) (by funext q9; unfold up; by_cases e9 : q9 = 59 <;> simp [e9]) ?_
    refine Ev.steps 2 (pc' := 53) (L' := [some (.ref 59), none, none, some (.int x3)]) (st' := [.int 0, .ref 59]) rfl ?_
    refine Ev.mem (a := 59) (g := (upd (upd (upd (upd (M 59) 34 0) 35 0) 29 0) 36 0)) (pc' := 56) (L' := [some (.ref 59), none, none, some (.int x3)]) (st' := []) (by decide) rfl ?_
    refine Ev.mto (M' := (up M 59 (upd (upd (upd (upd (M 59) 34 0) 35 0) 29 0) 36 0))) (by funext q9; unfold up; by_cases e9 : q9 = 59 <;> simp [e9]) ?_
    subst H
    exact Ev.ret rfl
  · replace H := H.2 hc
    refine Ev.steps 4 (pc' := 29) (L' := [some (.ref 59), none, none, some (.int x3)]) (st' := [.int 0, .int x3, .ref 77]) rfl ?_
    refine Ev.wr (a := 77) (g := (upd (M 77) (x3 : Int32).toNatClampNeg 0)) (i := x3) (n := 64) (pc' := 30) (L' := [some (.ref 59), none, none, some (.int x3)]) (st' := []) (by decide) H.1 rfl ?_
    replace H := H.2
    refine Ev.steps 2 (pc' := 17) (L' := [some (.ref 59), none, none, some (.int (x3 + 1))]) (st' := []) rfl ?_
    exact Ev.weak [some (.ref 59), none, none, some (.int (x3 + 1))] (gw_leb_le ⟨rfl, rfl, trivial⟩) H

-- 262 GlassWiresModel colour (III)I
theorem w262_0 {E : gw_N} {M : Mem} {res : Option Value × gw_H} {x1 : Int32} {x2 : Int32} {x3 : Int32} (H : (∃ (r1 : Int32), Rn 261 [.int x1] (hs E M) (some (.int r1)) (hs E M) ∧ ((r1 = 0 → Ev 3 262 19 [none, none, none, none, none] [] (hs E M) res) ∧ (¬ r1 = 0 → (∃ (r2 : Int32), Rn 209 [.long (Int32.toInt64 x2), .long 0, .long 2] (hs E M) (some (.int r2)) (hs E M) ∧ ((r2 = 0 → Ev 3 262 19 [none, none, none, none, none] [] (hs E M) res) ∧ (¬ r2 = 0 → ((x2 = 0 → Ev 3 262 33 [some (.ref 59), some (.int x1), some (.int x2), some (.int x3), none] [.long 1, .long (Int32.toInt64 x3)] (hs E M) res) ∧ (¬ x2 = 0 → Ev 3 262 33 [some (.ref 59), some (.int x1), some (.int x2), some (.int x3), none] [.long 0, .long (Int32.toInt64 x3)] (hs E M) res))))))))) : Ev 3 262 0 [some (.ref 59), some (.int x1), some (.int x2), some (.int x3), none] [] (hs E M) res := by
  refine Ev.steps 1 (pc' := 1) (L' := [some (.ref 59), some (.int x1), some (.int x2), some (.int x3), none]) (st' := [.int x1]) rfl ?_
  obtain ⟨r1, hr1, H⟩ := H
  refine Ev.call (y := 261) (args := [.int x1]) (rest := []) (r := (some (.int r1))) rfl hr1 ?_
  show Ev 3 262 4 [some (.ref 59), some (.int x1), some (.int x2), some (.int x3), none] [.int r1] _ _
  refine Ev.steps 1 (pc' := if r1 = 0 then 19 else 7) (L' := [some (.ref 59), some (.int x1), some (.int x2), some (.int x3), none]) (st' := []) rfl ?_
  refine Ev_ite (fun hc => ?_) (fun hc => ?_)
  · replace H := H.1 hc
    exact Ev.weak [none, none, none, none, none] (gw_leb_le trivial) H
  · replace H := H.2 hc
    refine Ev.steps 4 (pc' := 13) (L' := [some (.ref 59), some (.int x1), some (.int x2), some (.int x3), none]) (st' := [.long 2, .long 0, .long (Int32.toInt64 x2)]) rfl ?_
    obtain ⟨r2, hr2, H⟩ := H
    refine Ev.call (y := 209) (args := [.long (Int32.toInt64 x2), .long 0, .long 2]) (rest := []) (r := (some (.int r2))) rfl hr2 ?_
    show Ev 3 262 16 [some (.ref 59), some (.int x1), some (.int x2), some (.int x3), none] [.int r2] _ _
    refine Ev.steps 1 (pc' := if r2 = 0 then 19 else 22) (L' := [some (.ref 59), some (.int x1), some (.int x2), some (.int x3), none]) (st' := []) rfl ?_
    refine Ev_ite (fun hc => ?_) (fun hc => ?_)
    · replace H := H.1 hc
      exact Ev.weak [none, none, none, none, none] (gw_leb_le trivial) H
    · replace H := H.2 hc
      refine Ev.steps 4 (pc' := if x2 = 0 then 28 else 32) (L' := [some (.ref 59), some (.int x1), some (.int x2), some (.int x3), none]) (st' := [.long (Int32.toInt64 x3)]) rfl ?_
      refine Ev_ite (fun hc => ?_) (fun hc => ?_)
      · replace H := H.1 hc
        refine Ev.steps 2 (pc' := 33) (L' := [some (.ref 59), some (.int x1), some (.int x2), some (.int x3), none]) (st' := [.long 1, .long (Int32.toInt64 x3)]) rfl ?_
        exact Ev.weak [some (.ref 59), some (.int x1), some (.int x2), some (.int x3), none] (gw_leb_le ⟨rfl, rfl, rfl, rfl, trivial⟩) H
      · replace H := H.2 hc
        refine Ev.steps 1 (pc' := 33) (L' := [some (.ref 59), some (.int x1), some (.int x2), some (.int x3), none]) (st' := [.long 0, .long (Int32.toInt64 x3)]) rfl ?_
        exact Ev.weak [some (.ref 59), some (.int x1), some (.int x2), some (.int x3), none] (gw_leb_le ⟨rfl, rfl, rfl, rfl, trivial⟩) H

theorem w262_19 {E : gw_N} {M : Mem} {res : Option Value × gw_H}  (H : res = (some (.int (-101)), hs E M)) : Ev 3 262 19 [none, none, none, none, none] [] (hs E M) res := by
  refine Ev.steps 1 (pc' := 21) (L' := [none, none, none, none, none]) (st' := [.int (-101)]) rfl ?_
  subst H
  exact Ev.ret rfl

theorem w262_33 {E : gw_N} {M : Mem} {res : Option Value × gw_H} {x1 : Int32} {x2 : Int32} {x3 : Int32} {y0 : Int64} {y1 : Int64} (H : ((x2 = 0 → Ev 3 262 57 [some (.ref 59), some (.int x1), some (.int x2), some (.int x3), none] [.long 900, .long y1, .long y0] (hs E M) res) ∧ (¬ x2 = 0 → ((x2 = 1 → Ev 3 262 57 [some (.ref 59), some (.int x1), some (.int x2), some (.int x3), none] [.long 9, .long y1, .long y0] (hs E M) res) ∧ (¬ x2 = 1 → Ev 3 262 57 [some (.ref 59), some (.int x1), some (.int x2), some (.int x3), none] [.long 99, .long y1, .long y0] (hs E M) res))))) : Ev 3 262 33 [some (.ref 59), some (.int x1), some (.int x2), some (.int x3), none] [.long y1, .long y0] (hs E M) res := by
  refine Ev.steps 2 (pc' := if x2 = 0 then 37 else 43) (L' := [some (.ref 59), some (.int x1), some (.int x2), some (.int x3), none]) (st' := [.long y1, .long y0]) rfl ?_
  refine Ev_ite (fun hc => ?_) (fun hc => ?_)
  · replace H := H.1 hc
    refine Ev.steps 2 (pc' := 57) (L' := [some (.ref 59), some (.int x1), some (.int x2), some (.int x3), none]) (st' := [.long 900, .long y1, .long y0]) rfl ?_
    exact Ev.weak [some (.ref 59), some (.int x1), some (.int x2), some (.int x3), none] (gw_leb_le ⟨rfl, rfl, rfl, rfl, trivial⟩) H
  · replace H := H.2 hc
    refine Ev.steps 3 (pc' := if x2 = 1 then 48 else 54) (L' := [some (.ref 59), some (.int x1), some (.int x2), some (.int x3), none]) (st' := [.long y1, .long y0]) rfl ?_
    refine Ev_ite (fun hc => ?_) (fun hc => ?_)
    · replace H := H.1 hc
      refine Ev.steps 2 (pc' := 57) (L' := [some (.ref 59), some (.int x1), some (.int x2), some (.int x3), none]) (st' := [.long 9, .long y1, .long y0]) rfl ?_
      exact Ev.weak [some (.ref 59), some (.int x1), some (.int x2), some (.int x3), none] (gw_leb_le ⟨rfl, rfl, rfl, rfl, trivial⟩) H
    · replace H := H.2 hc
      refine Ev.steps 1 (pc' := 57) (L' := [some (.ref 59), some (.int x1), some (.int x2), some (.int x3), none]) (st' := [.long 99, .long y1, .long y0]) rfl ?_
      exact Ev.weak [some (.ref 59), some (.int x1), some (.int x2), some (.int x3), none] (gw_leb_le ⟨rfl, rfl, rfl, rfl, trivial⟩) H

theorem w262_57 {E : gw_N} {M : Mem} {res : Option Value × gw_H} {x1 : Int32} {x2 : Int32} {x3 : Int32} {y0 : Int64} {y1 : Int64} {y2 : Int64} (H : (∃ (r1 : Int32), Rn 209 [.long y0, .long y1, .long y2] (hs E M) (some (.int r1)) (hs E M) ∧ ((r1 = 0 → res = (some (.int (-102)), hs E M)) ∧ (¬ r1 = 0 → ((x2 = 0 → (inb x1 8 ∧ Ev 3 262 99 [some (.ref 59), some (.int x1), some (.int x2), some (.int x3), none] [.int ((M 73) (x1 : Int32).toNatClampNeg)] (hs E M) res)) ∧ (¬ x2 = 0 → ((x2 = 1 → (inb x1 8 ∧ Ev 3 262 99 [some (.ref 59), some (.int x1), some (.int x2), some (.int x3), none] [.int ((M 74) (x1 : Int32).toNatClampNeg)] (hs E M) res)) ∧ (¬ x2 = 1 → (inb x1 8 ∧ Ev 3 262 99 [some (.ref 59), some (.int x1), some (.int x2), some (.int x3), none] [.int ((M 75) (x1 : Int32).toNatClampNeg)] (hs E M) res))))))))) : Ev 3 262 57 [some (.ref 59), some (.int x1), some (.int x2), some (.int x3), none] [.long y2, .long y1, .long y0] (hs E M) res := by
  obtain ⟨r1, hr1, H⟩ := H
  refine Ev.call (y := 209) (args := [.long y0, .long y1, .long y2]) (rest := []) (r := (some (.int r1))) rfl hr1 ?_
  show Ev 3 262 60 [some (.ref 59), some (.int x1), some (.int x2), some (.int x3), none] [.int r1] _ _
  refine Ev.steps 1 (pc' := if r1 = 0 then 63 else 66) (L' := [some (.ref 59), some (.int x1), some (.int x2), some (.int x3), none]) (st' := []) rfl ?_
  refine Ev_ite (fun hc => ?_) (fun hc => ?_)
  · replace H := H.1 hc
    refine Ev.steps 1 (pc' := 65) (L' := [some (.ref 59), some (.int x1), some (.int x2), some (.int x3), none]) (st' := [.int (-102)]) rfl ?_
    subst H
    exact Ev.ret rfl
  · replace H := H.2 hc
    refine Ev.steps 2 (pc' := if x2 = 0 then 70 else 79) (L' := [some (.ref 59), some (.int x1), some (.int x2), some (.int x3), none]) (st' := []) rfl ?_
    refine Ev_ite (fun hc => ?_) (fun hc => ?_)
    · replace H := H.1 hc
      refine Ev.steps 3 (pc' := 75) (L' := [some (.ref 59), some (.int x1), some (.int x2), some (.int x3), none]) (st' := [.int x1, .ref 73]) rfl ?_
      refine Ev.rd (i := x1) (n := 8) (pc' := 76) (L' := [some (.ref 59), some (.int x1), some (.int x2), some (.int x3), none]) (st' := [.int ((M 73) (x1 : Int32).toNatClampNeg)]) H.1 rfl ?_
      replace H := H.2
      refine Ev.steps 1 (pc' := 99) (L' := [some (.ref 59), some (.int x1), some (.int x2), some (.int x3), none]) (st' := [.int ((M 73) (x1 : Int32).toNatClampNeg)]) rfl ?_
      exact Ev.weak [some (.ref 59), some (.int x1), some (.int x2), some (.int x3), none] (gw_leb_le ⟨rfl, rfl, rfl, rfl, trivial⟩) H
    · replace H := H.2 hc
      refine Ev.steps 3 (pc' := if x2 = 1 then 84 else 93) (L' := [some (.ref 59), some (.int x1), some (.int x2), some (.int x3), none]) (st' := []) rfl ?_
      refine Ev_ite (fun hc => ?_) (fun hc => ?_)
      · replace H := H.1 hc
        refine Ev.steps 3 (pc' := 89) (L' := [some (.ref 59), some (.int x1), some (.int x2), some (.int x3), none]) (st' := [.int x1, .ref 74]) rfl ?_
        refine Ev.rd (i := x1) (n := 8) (pc' := 90) (L' := [some (.ref 59), some (.int x1), some (.int x2), some (.int x3), none]) (st' := [.int ((M 74) (x1 : Int32).toNatClampNeg)]) H.1 rfl ?_
        replace H := H.2
        refine Ev.steps 1 (pc' := 99) (L' := [some (.ref 59), some (.int x1), some (.int x2), some (.int x3), none]) (st' := [.int ((M 74) (x1 : Int32).toNatClampNeg)]) rfl ?_
        exact Ev.weak [some (.ref 59), some (.int x1), some (.int x2), some (.int x3), none] (gw_leb_le ⟨rfl, rfl, rfl, rfl, trivial⟩) H
      · replace H := H.2 hc
        refine Ev.steps 3 (pc' := 98) (L' := [some (.ref 59), some (.int x1), some (.int x2), some (.int x3), none]) (st' := [.int x1, .ref 75]) rfl ?_
        refine Ev.rd (i := x1) (n := 8) (pc' := 99) (L' := [some (.ref 59), some (.int x1), some (.int x2), some (.int x3), none]) (st' := [.int ((M 75) (x1 : Int32).toNatClampNeg)]) H.1 rfl ?_
        replace H := H.2
        exact Ev.weak [some (.ref 59), some (.int x1), some (.int x2), some (.int x3), none] (gw_leb_le ⟨rfl, rfl, rfl, rfl, trivial⟩) H

theorem w262_99 {E : gw_N} {M : Mem} {res : Option Value × gw_H} {x1 : Int32} {x2 : Int32} {x3 : Int32} {y0 : Int32} (H : ((x2 = 0 → Ev 3 262 120 [some (.ref 59), some (.int x1), some (.int x2), some (.int x3), some (.int y0)] [.int x3, .int x1, .ref 73] (hs E M) res) ∧ (¬ x2 = 0 → (inb x1 8 ∧ Ev 3 262 120 [some (.ref 59), some (.int x1), some (.int x2), some (.int x3), some (.int y0)] [.int ((M 73) (x1 : Int32).toNatClampNeg), .int x1, .ref 73] (hs E M) res)))) : Ev 3 262 99 [some (.ref 59), some (.int x1), some (.int x2), some (.int x3), none] [.int y0] (hs E M) res := by
  refine Ev.steps 6 (pc' := if x2 = 0 then 110 else 114) (L' := [some (.ref 59), some (.int x1), some (.int x2), some (.int x3), some (.int y0)]) (st' := [.int x1, .ref 73]) rfl ?_
  refine Ev_ite (fun hc => ?_) (fun hc => ?_)
  · replace H := H.1 hc
    refine Ev.steps 2 (pc' := 120) (L' := [some (.ref 59), some (.int x1), some (.int x2), some (.int x3), some (.int y0)]) (st' := [.int x3, .int x1, .ref 73]) rfl ?_
    exact Ev.weak [some (.ref 59), some (.int x1), some (.int x2), some (.int x3), some (.int y0)] (gw_leb_le ⟨rfl, rfl, rfl, rfl, rfl, trivial⟩) H
  · replace H := H.2 hc
    refine Ev.steps 3 (pc' := 119) (L' := [some (.ref 59), some (.int x1), some (.int x2), some (.int x3), some (.int y0)]) (st' := [.int x1, .ref 73, .int x1, .ref 73]) rfl ?_
    refine Ev.rd (i := x1) (n := 8) (pc' := 120) (L' := [some (.ref 59), some (.int x1), some (.int x2), some (.int x3), some (.int y0)]) (st' := [.int ((M 73) (x1 : Int32).toNatClampNeg), .int x1, .ref 73]) H.1 rfl ?_
    replace H := H.2
    exact Ev.weak [some (.ref 59), some (.int x1), some (.int x2), some (.int x3), some (.int y0)] (gw_leb_le ⟨rfl, rfl, rfl, rfl, rfl, trivial⟩) H

theorem w262_120 {E : gw_N} {M : Mem} {res : Option Value × gw_H} {x1 : Int32} {x2 : Int32} {x3 : Int32} {x4 : Int32} {y1 : Int32} {y2 : Int32} (H : (inb y1 8 ∧ ((x2 = 1 → Ev 3 262 141 [some (.ref 59), some (.int x1), some (.int x2), some (.int x3), some (.int x4)] [.int x3, .int x1, .ref 74] (hs E (up M 73 (upd (M 73) (y1 : Int32).toNatClampNeg y2))) res) ∧ (¬ x2 = 1 → (inb x1 8 ∧ Ev 3 262 141 [some (.ref 59), some (.int x1), some (.int x2), some (.int x3), some (.int x4)] [.int ((M 74) (x1 : Int32).toNatClampNeg), .int x1, .ref 74] (hs E (up M 73 (upd (M 73) (y1 : Int32).toNatClampNeg y2))) res))))) : Ev 3 262 120 [some (.ref 59), some (.int x1), some (.int x2), some (.int x3), some (.int x4)] [.int y2, .int y1, .ref 73] (hs E M) res := by
  refine Ev.wr (a := 73) (g := (upd (M 73) (y1 : Int32).toNatClampNeg y2)) (i := y1) (n := 8) (pc' := 121) (L' := [some (.ref 59), some (.int x1), some (.int x2), some (.int x3), some (.int x4)]) (st' := []) (by decide) H.1 rfl ?_
  replace H := H.2
  refine Ev.steps 6 (pc' := if x2 = 1 then 131 else 135) (L' := [some (.ref 59), some (.int x1), some (.int x2), some (.int x3), some (.int x4)]) (st' := [.int x1, .ref 74]) rfl ?_
  refine Ev_ite (fun hc => ?_) (fun hc => ?_)
  · replace H := H.1 hc
    refine Ev.steps 2 (pc' := 141) (L' := [some (.ref 59), some (.int x1), some (.int x2), some (.int x3), some (.int x4)]) (st' := [.int x3, .int x1, .ref 74]) rfl ?_
    exact Ev.weak [some (.ref 59), some (.int x1), some (.int x2), some (.int x3), some (.int x4)] (gw_leb_le ⟨rfl, rfl, rfl, rfl, rfl, trivial⟩) H
  · replace H := H.2 hc
    refine Ev.steps 3 (pc' := 140) (L' := [some (.ref 59), some (.int x1), some (.int x2), some (.int x3), some (.int x4)]) (st' := [.int x1, .ref 74, .int x1, .ref 74]) rfl ?_
    refine Ev.rd (i := x1) (n := 8) (pc' := 141) (L' := [some (.ref 59), some (.int x1), some (.int x2), some (.int x3), some (.int x4)]) (st' := [.int ((M 74) (x1 : Int32).toNatClampNeg), .int x1, .ref 74]) H.1 rfl ?_
    replace H := H.2
    exact Ev.weak [some (.ref 59), some (.int x1), some (.int x2), some (.int x3), some (.int x4)] (gw_leb_le ⟨rfl, rfl, rfl, rfl, rfl, trivial⟩) H

theorem w262_141 {E : gw_N} {M : Mem} {res : Option Value × gw_H} {x1 : Int32} {x2 : Int32} {x3 : Int32} {x4 : Int32} {y1 : Int32} {y2 : Int32} (H : (inb y1 8 ∧ ((x2 = 2 → Ev 3 262 162 [none, none, none, none, some (.int x4)] [.int x3, .int x1, .ref 75] (hs E (up M 74 (upd (M 74) (y1 : Int32).toNatClampNeg y2))) res) ∧ (¬ x2 = 2 → (inb x1 8 ∧ Ev 3 262 162 [none, none, none, none, some (.int x4)] [.int ((M 75) (x1 : Int32).toNatClampNeg), .int x1, .ref 75] (hs E (up M 74 (upd (M 74) (y1 : Int32).toNatClampNeg y2))) res))))) : Ev 3 262 141 [some (.ref 59), some (.int x1), some (.int x2), some (.int x3), some (.int x4)] [.int y2, .int y1, .ref 74] (hs E M) res := by
  refine Ev.wr (a := 74) (g := (upd (M 74) (y1 : Int32).toNatClampNeg y2)) (i := y1) (n := 8) (pc' := 142) (L' := [some (.ref 59), some (.int x1), some (.int x2), some (.int x3), some (.int x4)]) (st' := []) (by decide) H.1 rfl ?_
  replace H := H.2
  refine Ev.steps 6 (pc' := if x2 = 2 then 152 else 156) (L' := [some (.ref 59), some (.int x1), some (.int x2), some (.int x3), some (.int x4)]) (st' := [.int x1, .ref 75]) rfl ?_
  refine Ev_ite (fun hc => ?_) (fun hc => ?_)
  · replace H := H.1 hc
    refine Ev.steps 2 (pc' := 162) (L' := [some (.ref 59), some (.int x1), some (.int x2), some (.int x3), some (.int x4)]) (st' := [.int x3, .int x1, .ref 75]) rfl ?_
    exact Ev.weak [none, none, none, none, some (.int x4)] (gw_leb_le ⟨rfl, trivial⟩) H
  · replace H := H.2 hc
    refine Ev.steps 3 (pc' := 161) (L' := [some (.ref 59), some (.int x1), some (.int x2), some (.int x3), some (.int x4)]) (st' := [.int x1, .ref 75, .int x1, .ref 75]) rfl ?_
    refine Ev.rd (i := x1) (n := 8) (pc' := 162) (L' := [some (.ref 59), some (.int x1), some (.int x2), some (.int x3), some (.int x4)]) (st' := [.int ((M 75) (x1 : Int32).toNatClampNeg), .int x1, .ref 75]) H.1 rfl ?_
    replace H := H.2
    exact Ev.weak [none, none, none, none, some (.int x4)] (gw_leb_le ⟨rfl, trivial⟩) H

theorem w262_162 {E : gw_N} {M : Mem} {res : Option Value × gw_H} {x4 : Int32} {y1 : Int32} {y2 : Int32} (H : (inb y1 8 ∧ res = (some (.int x4), hs E (up M 75 (upd (M 75) (y1 : Int32).toNatClampNeg y2))))) : Ev 3 262 162 [none, none, none, none, some (.int x4)] [.int y2, .int y1, .ref 75] (hs E M) res := by
  refine Ev.wr (a := 75) (g := (upd (M 75) (y1 : Int32).toNatClampNeg y2)) (i := y1) (n := 8) (pc' := 163) (L' := [none, none, none, none, some (.int x4)]) (st' := []) (by decide) H.1 rfl ?_
  replace H := H.2
  refine Ev.steps 1 (pc' := 165) (L' := [none, none, none, none, some (.int x4)]) (st' := [.int x4]) rfl ?_
  subst H
  exact Ev.ret rfl

