/-! by program (wp.py): formulas that are enough -/
-- 46 GlassWires$Grid beside (II)I
theorem w46_0 {E : gw_N} {M : Mem} {res : Option Value × gw_H} {x1 : Int32} {x2 : Int32} (H : (inb x1 64 ∧ (inb x1 64 ∧ (((F43 M (((M 10) (x1 : Int32).toNatClampNeg) + (F53 M x2)) (((M 11) (x1 : Int32).toNatClampNeg) + (F54 M x2))) = 0 → res = (some (.int (-1)), hs E M)) ∧ (¬ (F43 M (((M 10) (x1 : Int32).toNatClampNeg) + (F53 M x2)) (((M 11) (x1 : Int32).toNatClampNeg) + (F54 M x2))) = 0 → res = (some (.int (F45 M (((M 10) (x1 : Int32).toNatClampNeg) + (F53 M x2)) (((M 11) (x1 : Int32).toNatClampNeg) + (F54 M x2)))), hs E M)))))) : Ev 2 46 0 [some (.ref 9), some (.int x1), some (.int x2), none, none] [] (hs E M) res := by
  refine Ev.steps 3 (pc' := 5) (L' := [some (.ref 9), some (.int x1), some (.int x2), none, none]) (st' := [.int x1, .ref 10]) rfl ?_
  refine Ev.rd (i := x1) (n := 64) (pc' := 6) (L' := [some (.ref 9), some (.int x1), some (.int x2), none, none]) (st' := [.int ((M 10) (x1 : Int32).toNatClampNeg)]) H.1 rfl ?_
  replace H := H.2
  refine Ev.steps 1 (pc' := 7) (L' := [some (.ref 9), some (.int x1), some (.int x2), none, none]) (st' := [.int x2, .int ((M 10) (x1 : Int32).toNatClampNeg)]) rfl ?_
  refine Ev.call (y := 53) (args := [.int x2]) (rest := [.int ((M 10) (x1 : Int32).toNatClampNeg)]) (r := some (.int (F53 M x2))) rfl (s53) ?_
  show Ev 2 46 10 [some (.ref 9), some (.int x1), some (.int x2), none, none] [.int (F53 M x2), .int ((M 10) (x1 : Int32).toNatClampNeg)] _ _
  refine Ev.steps 5 (pc' := 17) (L' := [some (.ref 9), some (.int x1), some (.int x2), some (.int (((M 10) (x1 : Int32).toNatClampNeg) + (F53 M x2))), none]) (st' := [.int x1, .ref 11]) rfl ?_
  refine Ev.rd (i := x1) (n := 64) (pc' := 18) (L' := [some (.ref 9), some (.int x1), some (.int x2), some (.int (((M 10) (x1 : Int32).toNatClampNeg) + (F53 M x2))), none]) (st' := [.int ((M 11) (x1 : Int32).toNatClampNeg)]) H.1 rfl ?_
  replace H := H.2
  refine Ev.steps 1 (pc' := 19) (L' := [some (.ref 9), some (.int x1), some (.int x2), some (.int (((M 10) (x1 : Int32).toNatClampNeg) + (F53 M x2))), none]) (st' := [.int x2, .int ((M 11) (x1 : Int32).toNatClampNeg)]) rfl ?_
  refine Ev.call (y := 54) (args := [.int x2]) (rest := [.int ((M 11) (x1 : Int32).toNatClampNeg)]) (r := some (.int (F54 M x2))) rfl (s54) ?_
  show Ev 2 46 22 [some (.ref 9), some (.int x1), some (.int x2), some (.int (((M 10) (x1 : Int32).toNatClampNeg) + (F53 M x2))), none] [.int (F54 M x2), .int ((M 11) (x1 : Int32).toNatClampNeg)] _ _
  refine Ev.steps 5 (pc' := 29) (L' := [some (.ref 9), some (.int x1), some (.int x2), some (.int (((M 10) (x1 : Int32).toNatClampNeg) + (F53 M x2))), some (.int (((M 11) (x1 : Int32).toNatClampNeg) + (F54 M x2)))]) (st' := [.int (((M 11) (x1 : Int32).toNatClampNeg) + (F54 M x2)), .int (((M 10) (x1 : Int32).toNatClampNeg) + (F53 M x2)), .ref 9]) rfl ?_
  refine Ev.call (y := 43) (args := [.ref 9, .int (((M 10) (x1 : Int32).toNatClampNeg) + (F53 M x2)), .int (((M 11) (x1 : Int32).toNatClampNeg) + (F54 M x2))]) (rest := []) (r := some (.int (F43 M (((M 10) (x1 : Int32).toNatClampNeg) + (F53 M x2)) (((M 11) (x1 : Int32).toNatClampNeg) + (F54 M x2))))) rfl (s43) ?_
  show Ev 2 46 32 [some (.ref 9), some (.int x1), some (.int x2), some (.int (((M 10) (x1 : Int32).toNatClampNeg) + (F53 M x2))), some (.int (((M 11) (x1 : Int32).toNatClampNeg) + (F54 M x2)))] [.int (F43 M (((M 10) (x1 : Int32).toNatClampNeg) + (F53 M x2)) (((M 11) (x1 : Int32).toNatClampNeg) + (F54 M x2)))] _ _
  refine Ev.steps 1 (pc' := if (F43 M (((M 10) (x1 : Int32).toNatClampNeg) + (F53 M x2)) (((M 11) (x1 : Int32).toNatClampNeg) + (F54 M x2))) = 0 then 45 else 35) (L' := [some (.ref 9), some (.int x1), some (.int x2), some (.int (((M 10) (x1 : Int32).toNatClampNeg) + (F53 M x2))), some (.int (((M 11) (x1 : Int32).toNatClampNeg) + (F54 M x2)))]) (st' := []) rfl ?_
  refine Ev_ite (fun hc => ?_) (fun hc => ?_)
  · replace H := H.1 hc
    refine Ev.steps 1 (pc' := 46) (L' := [some (.ref 9), some (.int x1), some (.int x2), some (.int (((M 10) (x1 : Int32).toNatClampNeg) + (F53 M x2))), some (.int (((M 11) (x1 : Int32).toNatClampNeg) + (F54 M x2)))]) (st' := [.int (-1)]) rfl ?_
    subst H
    exact Ev.ret rfl
  · replace H := H.2 hc
    refine Ev.steps 3 (pc' := 39) (L' := [some (.ref 9), some (.int x1), some (.int x2), some (.int (((M 10) (x1 : Int32).toNatClampNeg) + (F53 M x2))), some (.int (((M 11) (x1 : Int32).toNatClampNeg) + (F54 M x2)))]) (st' := [.int (((M 11) (x1 : Int32).toNatClampNeg) + (F54 M x2)), .int (((M 10) (x1 : Int32).toNatClampNeg) + (F53 M x2)), .ref 9]) rfl ?_
    refine Ev.call (y := 45) (args := [.ref 9, .int (((M 10) (x1 : Int32).toNatClampNeg) + (F53 M x2)), .int (((M 11) (x1 : Int32).toNatClampNeg) + (F54 M x2))]) (rest := []) (r := some (.int (F45 M (((M 10) (x1 : Int32).toNatClampNeg) + (F53 M x2)) (((M 11) (x1 : Int32).toNatClampNeg) + (F54 M x2))))) rfl (s45) ?_
    show Ev 2 46 42 [some (.ref 9), some (.int x1), some (.int x2), some (.int (((M 10) (x1 : Int32).toNatClampNeg) + (F53 M x2))), some (.int (((M 11) (x1 : Int32).toNatClampNeg) + (F54 M x2)))] [.int (F45 M (((M 10) (x1 : Int32).toNatClampNeg) + (F53 M x2)) (((M 11) (x1 : Int32).toNatClampNeg) + (F54 M x2)))] _ _
    refine Ev.steps 1 (pc' := 46) (L' := [some (.ref 9), some (.int x1), some (.int x2), some (.int (((M 10) (x1 : Int32).toNatClampNeg) + (F53 M x2))), some (.int (((M 11) (x1 : Int32).toNatClampNeg) + (F54 M x2)))]) (st' := [.int (F45 M (((M 10) (x1 : Int32).toNatClampNeg) + (F53 M x2)) (((M 11) (x1 : Int32).toNatClampNeg) + (F54 M x2)))]) rfl ?_
    subst H
    exact Ev.ret rfl

def F46 (M : Mem) (x1 : Int32) (x2 : Int32) : Int32 := (if (F43 M (((M 10) (x1 : Int32).toNatClampNeg) + (F53 M x2)) (((M 11) (x1 : Int32).toNatClampNeg) + (F54 M x2))) = 0 then (-1) else (F45 M (((M 10) (x1 : Int32).toNatClampNeg) + (F53 M x2)) (((M 11) (x1 : Int32).toNatClampNeg) + (F54 M x2))))
def P46 (M : Mem) (x1 : Int32) (x2 : Int32) : Prop := (inb x1 64 ∧ (inb x1 64))
theorem s46 {E : gw_N} {M : Mem} {x1 : Int32} {x2 : Int32} (H : P46 M x1 x2) : Rn 46 [.ref 9, .int x1, .int x2] (hs E M) (some (.int (F46 M x1 x2))) (hs E M) :=
  w46_0 (⟨H.1, ⟨H.2, ⟨fun h0 => gw_reteq (if_pos h0), fun h0 => gw_reteq (if_neg h0)⟩⟩⟩)
-- 51 GlassWires$Grid edgeNumber (III)I
theorem w51_0 {E : gw_N} {M : Mem} {res : Option Value × gw_H} {x0 : Int32} {x1 : Int32} {x2 : Int32} (H : res = (some (.int ((89 * x2) + (F48 M x0 x1))), hs E M)) : Ev 2 51 0 [some (.int x0), some (.int x1), some (.int x2)] [] (hs E M) res := by
  refine Ev.steps 5 (pc' := 6) (L' := [some (.int x0), some (.int x1), some (.int x2)]) (st' := [.int x1, .int x0, .int (89 * x2)]) rfl ?_
  refine Ev.call (y := 48) (args := [.int x0, .int x1]) (rest := [.int (89 * x2)]) (r := some (.int (F48 M x0 x1))) rfl (s48) ?_
  show Ev 2 51 9 [some (.int x0), some (.int x1), some (.int x2)] [.int (F48 M x0 x1), .int (89 * x2)] _ _
  refine Ev.steps 1 (pc' := 10) (L' := [some (.int x0), some (.int x1), some (.int x2)]) (st' := [.int ((89 * x2) + (F48 M x0 x1))]) rfl ?_
  subst H
  exact Ev.ret rfl

def F51 (M : Mem) (x0 : Int32) (x1 : Int32) (x2 : Int32) : Int32 := ((89 * x2) + (F48 M x0 x1))
theorem s51 {E : gw_N} {M : Mem} {x0 : Int32} {x1 : Int32} {x2 : Int32} : Rn 51 [.int x0, .int x1, .int x2] (hs E M) (some (.int (F51 M x0 x1 x2))) (hs E M) :=
  w51_0 (rfl)
-- 55 GlassWires$Grid digestOn (J)J
theorem w55_0 {E : gw_N} {M : Mem} {res : Option Value × gw_H} {x1 : Int64} (H : res = (some (.long (F207 M (F207 M x1 (Int32.toInt64 ((M 9) 2))) (Int32.toInt64 ((M 9) 3)))), hs E M)) : Ev 2 55 0 [some (.ref 9), some (.long x1), none] [] (hs E M) res := by
  refine Ev.steps 4 (pc' := 6) (L' := [some (.ref 9), some (.long x1), none]) (st' := [.long (Int32.toInt64 ((M 9) 2)), .long x1]) rfl ?_
  refine Ev.call (y := 207) (args := [.long x1, .long (Int32.toInt64 ((M 9) 2))]) (rest := []) (r := some (.long (F207 M x1 (Int32.toInt64 ((M 9) 2))))) rfl (s207) ?_
  show Ev 2 55 9 [some (.ref 9), some (.long x1), none] [.long (F207 M x1 (Int32.toInt64 ((M 9) 2)))] _ _
  refine Ev.steps 3 (pc' := 14) (L' := [some (.ref 9), some (.long x1), none]) (st' := [.long (Int32.toInt64 ((M 9) 3)), .long (F207 M x1 (Int32.toInt64 ((M 9) 2)))]) rfl ?_
  refine Ev.call (y := 207) (args := [.long (F207 M x1 (Int32.toInt64 ((M 9) 2))), .long (Int32.toInt64 ((M 9) 3))]) (rest := []) (r := some (.long (F207 M (F207 M x1 (Int32.toInt64 ((M 9) 2))) (Int32.toInt64 ((M 9) 3))))) rfl (s207) ?_
  show Ev 2 55 17 [some (.ref 9), some (.long x1), none] [.long (F207 M (F207 M x1 (Int32.toInt64 ((M 9) 2))) (Int32.toInt64 ((M 9) 3)))] _ _
  subst H
  exact Ev.ret rfl

def F55 (M : Mem) (x1 : Int64) : Int64 := (F207 M (F207 M x1 (Int32.toInt64 ((M 9) 2))) (Int32.toInt64 ((M 9) 3)))
theorem s55 {E : gw_N} {M : Mem} {x1 : Int64} : Rn 55 [.ref 9, .long x1] (hs E M) (some (.long (F55 M x1))) (hs E M) :=
  w55_0 (rfl)
-- 60 GlassWires$Net goAlong (II)V
theorem w60_0 {E : gw_N} {M : Mem} {res : Option Value × gw_H} {x1 : Int32} {x2 : Int32} (H : (inb x2 178 ∧ ((((M 26) (x2 : Int32).toNatClampNeg) = x1 → res = (none, hs E M)) ∧ (¬ ((M 26) (x2 : Int32).toNatClampNeg) = x1 → (inb x2 178 ∧ (inb x2 178 ∧ (inb x2 178 ∧ (inb x2 178 ∧ (P147 (up (up M 26 (upd (M 26) (x2 : Int32).toNatClampNeg x1)) 23 (upd (M 23) (x2 : Int32).toNatClampNeg (((M 23) (x2 : Int32).toNatClampNeg) + 1))) x1 ∧ (inb x2 178 ∧ res = (none, hs E (up (up (up M 26 (upd (M 26) (x2 : Int32).toNatClampNeg x1)) 23 (upd (M 23) (x2 : Int32).toNatClampNeg (((M 23) (x2 : Int32).toNatClampNeg) + 1))) 24 (upd (M 24) (x2 : Int32).toNatClampNeg (((M 24) (x2 : Int32).toNatClampNeg) + (F206 (up (up M 26 (upd (M 26) (x2 : Int32).toNatClampNeg x1)) 23 (upd (M 23) (x2 : Int32).toNatClampNeg (((M 23) (x2 : Int32).toNatClampNeg) + 1))) (F147 (up (up M 26 (upd (M 26) (x2 : Int32).toNatClampNeg x1)) 23 (upd (M 23) (x2 : Int32).toNatClampNeg (((M 23) (x2 : Int32).toNatClampNeg) + 1))) x1)))))))))))))))) : Ev 2 60 0 [some (.ref 22), some (.int x1), some (.int x2)] [] (hs E M) res := by
  refine Ev.steps 3 (pc' := 5) (L' := [some (.ref 22), some (.int x1), some (.int x2)]) (st' := [.int x2, .ref 26]) rfl ?_
  refine Ev.rd (i := x2) (n := 178) (pc' := 6) (L' := [some (.ref 22), some (.int x1), some (.int x2)]) (st' := [.int ((M 26) (x2 : Int32).toNatClampNeg)]) H.1 rfl ?_
  replace H := H.2
  refine Ev.steps 2 (pc' := if ((M 26) (x2 : Int32).toNatClampNeg) = x1 then 47 else 10) (L' := [some (.ref 22), some (.int x1), some (.int x2)]) (st' := []) rfl ?_
  refine Ev_ite (fun hc => ?_) (fun hc => ?_)
  · replace H := H.1 hc
    subst H
    exact Ev.ret rfl
  · replace H := H.2 hc
    refine Ev.steps 4 (pc' := 16) (L' := [some (.ref 22), some (.int x1), some (.int x2)]) (st' := [.int x1, .int x2, .ref 26]) rfl ?_
    refine Ev.wr (a := 26) (g := (upd (M 26) (x2 : Int32).toNatClampNeg x1)) (i := x2) (n := 178) (pc' := 17) (L' := [some (.ref 22), some (.int x1), some (.int x2)]) (st' := []) (by decide) H.1 rfl ?_
    replace H := H.2
    refine Ev.steps 4 (pc' := 23) (L' := [some (.ref 22), some (.int x1), some (.int x2)]) (st' := [.int x2, .ref 23, .int x2, .ref 23]) rfl ?_
    refine Ev.rd (i := x2) (n := 178) (pc' := 24) (L' := [some (.ref 22), some (.int x1), some (.int x2)]) (st' := [.int ((M 23) (x2 : Int32).toNatClampNeg), .int x2, .ref 23]) H.1 rfl ?_
    replace H := H.2
    refine Ev.steps 2 (pc' := 26) (L' := [some (.ref 22), some (.int x1), some (.int x2)]) (st' := [.int (((M 23) (x2 : Int32).toNatClampNeg) + 1), .int x2, .ref 23]) rfl ?_
    refine Ev.wr (a := 23) (g := (upd (M 23) (x2 : Int32).toNatClampNeg (((M 23) (x2 : Int32).toNatClampNeg) + 1))) (i := x2) (n := 178) (pc' := 27) (L' := [some (.ref 22), some (.int x1), some (.int x2)]) (st' := []) (by decide) H.1 rfl ?_
    replace H := H.2
    refine Ev.steps 4 (pc' := 33) (L' := [some (.ref 22), some (.int x1), some (.int x2)]) (st' := [.int x2, .ref 24, .int x2, .ref 24]) rfl ?_
    refine Ev.rd (i := x2) (n := 178) (pc' := 34) (L' := [some (.ref 22), some (.int x1), some (.int x2)]) (st' := [.int ((M 24) (x2 : Int32).toNatClampNeg), .int x2, .ref 24]) H.1 rfl ?_
    replace H := H.2
    refine Ev.steps 3 (pc' := 39) (L' := [some (.ref 22), some (.int x1), some (.int x2)]) (st' := [.int x1, .ref 14, .int ((M 24) (x2 : Int32).toNatClampNeg), .int x2, .ref 24]) rfl ?_
    refine Ev.call (y := 147) (args := [.ref 14, .int x1]) (rest := [.int ((M 24) (x2 : Int32).toNatClampNeg), .int x2, .ref 24]) (r := some (.int (F147 (up (up M 26 (upd (M 26) (x2 : Int32).toNatClampNeg x1)) 23 (upd (M 23) (x2 : Int32).toNatClampNeg (((M 23) (x2 : Int32).toNatClampNeg) + 1))) x1))) rfl (s147 H.1) ?_
    replace H := H.2
    show Ev 2 60 42 [some (.ref 22), some (.int x1), some (.int x2)] [.int (F147 (up (up M 26 (upd (M 26) (x2 : Int32).toNatClampNeg x1)) 23 (upd (M 23) (x2 : Int32).toNatClampNeg (((M 23) (x2 : Int32).toNatClampNeg) + 1))) x1), .int ((M 24) (x2 : Int32).toNatClampNeg), .int x2, .ref 24] _ _
    refine Ev.call (y := 206) (args := [.int (F147 (up (up M 26 (upd (M 26) (x2 : Int32).toNatClampNeg x1)) 23 (upd (M 23) (x2 : Int32).toNatClampNeg (((M 23) (x2 : Int32).toNatClampNeg) + 1))) x1)]) (rest := [.int ((M 24) (x2 : Int32).toNatClampNeg), .int x2, .ref 24]) (r := some (.int (F206 (up (up M 26 (upd (M 26) (x2 : Int32).toNatClampNeg x1)) 23 (upd (M 23) (x2 : Int32).toNatClampNeg (((M 23) (x2 : Int32).toNatClampNeg) + 1))) (F147 (up (up M 26 (upd (M 26) (x2 : Int32).toNatClampNeg x1)) 23 (upd (M 23) (x2 : Int32).toNatClampNeg (((M 23) (x2 : Int32).toNatClampNeg) + 1))) x1)))) rfl (s206) ?_
    show Ev 2 60 45 [some (.ref 22), some (.int x1), some (.int x2)] [.int (F206 (up (up M 26 (upd (M 26) (x2 : Int32).toNatClampNeg x1)) 23 (upd (M 23) (x2 : Int32).toNatClampNeg (((M 23) (x2 : Int32).toNatClampNeg) + 1))) (F147 (up (up M 26 (upd (M 26) (x2 : Int32).toNatClampNeg x1)) 23 (upd (M 23) (x2 : Int32).toNatClampNeg (((M 23) (x2 : Int32).toNatClampNeg) + 1))) x1)), .int ((M 24) (x2 : Int32).toNatClampNeg), .int x2, .ref 24] _ _
    refine Ev.steps 1 (pc' := 46) (L' := [some (.ref 22), some (.int x1), some (.int x2)]) (st' := [.int (((M 24) (x2 : Int32).toNatClampNeg) + (F206 (up (up M 26 (upd (M 26) (x2 : Int32).toNatClampNeg x1)) 23 (upd (M 23) (x2 : Int32).toNatClampNeg (((M 23) (x2 : Int32).toNatClampNeg) + 1))) (F147 (up (up M 26 (upd (M 26) (x2 : Int32).toNatClampNeg x1)) 23 (upd (M 23) (x2 : Int32).toNatClampNeg (((M 23) (x2 : Int32).toNatClampNeg) + 1))) x1))), .int x2, .ref 24]) rfl ?_
    refine Ev.wr (a := 24) (g := (upd (M 24) (x2 : Int32).toNatClampNeg (((M 24) (x2 : Int32).toNatClampNeg) + (F206 (up (up M 26 (upd (M 26) (x2 : Int32).toNatClampNeg x1)) 23 (upd (M 23) (x2 : Int32).toNatClampNeg (((M 23) (x2 : Int32).toNatClampNeg) + 1))) (F147 (up (up M 26 (upd (M 26) (x2 : Int32).toNatClampNeg x1)) 23 (upd (M 23) (x2 : Int32).toNatClampNeg (((M 23) (x2 : Int32).toNatClampNeg) + 1))) x1))))) (i := x2) (n := 178) (pc' := 47) (L' := [some (.ref 22), some (.int x1), some (.int x2)]) (st' := []) (by decide) H.1 rfl ?_
    replace H := H.2
    subst H
    exact Ev.ret rfl

-- 62 GlassWires$Net isHeldNow (I)Z
theorem w62_0 {E : gw_N} {M : Mem} {res : Option Value × gw_H} {x1 : Int32} (H : (P152 M x1 ∧ (((F152 M x1) = 0 → Ev 2 62 15 [some (.ref 22), some (.int x1), some (.int 0)] [] (hs E M) res) ∧ (¬ (F152 M x1) = 0 → res = (some (.int 1), hs E M))))) : Ev 2 62 0 [some (.ref 22), some (.int x1), none] [] (hs E M) res := by
  refine Ev.steps 3 (pc' := 5) (L' := [some (.ref 22), some (.int x1), none]) (st' := [.int x1, .ref 14]) rfl ?_
  refine Ev.call (y := 152) (args := [.ref 14, .int x1]) (rest := []) (r := some (.int (F152 M x1))) rfl (s152 H.1) ?_
  replace H := H.2
  show Ev 2 62 8 [some (.ref 22), some (.int x1), none] [.int (F152 M x1)] _ _
  refine Ev.steps 1 (pc' := if (F152 M x1) = 0 then 13 else 11) (L' := [some (.ref 22), some (.int x1), none]) (st' := []) rfl ?_
  refine Ev_ite (fun hc => ?_) (fun hc => ?_)
  · replace H := H.1 hc
    refine Ev.steps 2 (pc' := 15) (L' := [some (.ref 22), some (.int x1), some (.int 0)]) (st' := []) rfl ?_
    exact Ev.weak [some (.ref 22), some (.int x1), some (.int 0)] (gw_leb_le ⟨rfl, rfl, rfl, trivial⟩) H
  · replace H := H.2 hc
    refine Ev.steps 1 (pc' := 12) (L' := [some (.ref 22), some (.int x1), none]) (st' := [.int 1]) rfl ?_
    subst H
    exact Ev.ret rfl

theorem w62_15 {E : gw_N} {M : Mem} {res : Option Value × gw_H} {x1 : Int32} {x2 : Int32} (H : (P149 M x1 ∧ (((F149 M x1) < x2 → res = (some (.int 0), hs E M)) ∧ (¬ (F149 M x1) < x2 → (P153 M x1 x2 ∧ (inb (F153 M x1 x2) 89 ∧ ((((M 29) ((F153 M x1 x2) : Int32).toNatClampNeg) = 0 → Ev 2 62 15 [some (.ref 22), some (.int x1), some (.int (x2 + 1))] [] (hs E M) res) ∧ (¬ ((M 29) ((F153 M x1 x2) : Int32).toNatClampNeg) = 0 → res = (some (.int 1), hs E M))))))))) : Ev 2 62 15 [some (.ref 22), some (.int x1), some (.int x2)] [] (hs E M) res := by
  refine Ev.steps 4 (pc' := 21) (L' := [some (.ref 22), some (.int x1), some (.int x2)]) (st' := [.int x1, .ref 14, .int x2]) rfl ?_
  refine Ev.call (y := 149) (args := [.ref 14, .int x1]) (rest := [.int x2]) (r := some (.int (F149 M x1))) rfl (s149 H.1) ?_
  replace H := H.2
  show Ev 2 62 24 [some (.ref 22), some (.int x1), some (.int x2)] [.int (F149 M x1), .int x2] _ _
  refine Ev.steps 1 (pc' := if (F149 M x1) < x2 then 52 else 27) (L' := [some (.ref 22), some (.int x1), some (.int x2)]) (st' := []) rfl ?_
  refine Ev_ite (fun hc => ?_) (fun hc => ?_)
  · replace H := H.1 hc
    refine Ev.steps 1 (pc' := 53) (L' := [some (.ref 22), some (.int x1), some (.int x2)]) (st' := [.int 0]) rfl ?_
    subst H
    exact Ev.ret rfl
  · replace H := H.2 hc
    refine Ev.steps 6 (pc' := 37) (L' := [some (.ref 22), some (.int x1), some (.int x2)]) (st' := [.int x2, .int x1, .ref 14, .ref 29]) rfl ?_
    refine Ev.call (y := 153) (args := [.ref 14, .int x1, .int x2]) (rest := [.ref 29]) (r := some (.int (F153 M x1 x2))) rfl (s153 H.1) ?_
    replace H := H.2
    show Ev 2 62 40 [some (.ref 22), some (.int x1), some (.int x2)] [.int (F153 M x1 x2), .ref 29] _ _
    refine Ev.rd (i := (F153 M x1 x2)) (n := 89) (pc' := 41) (L' := [some (.ref 22), some (.int x1), some (.int x2)]) (st' := [.int ((M 29) ((F153 M x1 x2) : Int32).toNatClampNeg)]) H.1 rfl ?_
    replace H := H.2
    refine Ev.steps 1 (pc' := if ((M 29) ((F153 M x1 x2) : Int32).toNatClampNeg) = 0 then 46 else 44) (L' := [some (.ref 22), some (.int x1), some (.int x2)]) (st' := []) rfl ?_
    refine Ev_ite (fun hc => ?_) (fun hc => ?_)
    · replace H := H.1 hc
      refine Ev.steps 2 (pc' := 15) (L' := [some (.ref 22), some (.int x1), some (.int (x2 + 1))]) (st' := []) rfl ?_
      exact Ev.weak [some (.ref 22), some (.int x1), some (.int (x2 + 1))] (gw_leb_le ⟨rfl, rfl, rfl, trivial⟩) H
    · replace H := H.2 hc
      refine Ev.steps 1 (pc' := 45) (L' := [some (.ref 22), some (.int x1), some (.int x2)]) (st' := [.int 1]) rfl ?_
      subst H
      exact Ev.ret rfl

-- 63 GlassWires$Net hold (I)V
theorem w63_0 {E : gw_N} {M : Mem} {res : Option Value × gw_H} {x1 : Int32} (H : (inb x1 30 ∧ Ev 2 63 9 [some (.ref 22), some (.int x1), some (.int 0)] [] (hs E (up M 28 (upd (M 28) (x1 : Int32).toNatClampNeg 1))) res)) : Ev 2 63 0 [some (.ref 22), some (.int x1), none] [] (hs E M) res := by
  refine Ev.steps 4 (pc' := 6) (L' := [some (.ref 22), some (.int x1), none]) (st' := [.int 1, .int x1, .ref 28]) rfl ?_
  refine Ev.wr (a := 28) (g := (upd (M 28) (x1 : Int32).toNatClampNeg 1)) (i := x1) (n := 30) (pc' := 7) (L' := [some (.ref 22), some (.int x1), none]) (st' := []) (by decide) H.1 rfl ?_
  replace H := H.2
  refine Ev.steps 2 (pc' := 9) (L' := [some (.ref 22), some (.int x1), some (.int 0)]) (st' := []) rfl ?_
  exact Ev.weak [some (.ref 22), some (.int x1), some (.int 0)] (gw_leb_le ⟨rfl, rfl, rfl, trivial⟩) H

theorem w63_9 {E : gw_N} {M : Mem} {res : Option Value × gw_H} {x1 : Int32} {x2 : Int32} (H : (P149 M x1 ∧ (((F149 M x1) < x2 → res = (none, hs E M)) ∧ (¬ (F149 M x1) < x2 → (P153 M x1 x2 ∧ (inb (F153 M x1 x2) 89 ∧ Ev 2 63 9 [some (.ref 22), some (.int x1), some (.int (x2 + 1))] [] (hs E (up M 29 (upd (M 29) ((F153 M x1 x2) : Int32).toNatClampNeg 1))) res)))))) : Ev 2 63 9 [some (.ref 22), some (.int x1), some (.int x2)] [] (hs E M) res := by
  refine Ev.steps 4 (pc' := 15) (L' := [some (.ref 22), some (.int x1), some (.int x2)]) (st' := [.int x1, .ref 14, .int x2]) rfl ?_
  refine Ev.call (y := 149) (args := [.ref 14, .int x1]) (rest := [.int x2]) (r := some (.int (F149 M x1))) rfl (s149 H.1) ?_
  replace H := H.2
  show Ev 2 63 18 [some (.ref 22), some (.int x1), some (.int x2)] [.int (F149 M x1), .int x2] _ _
  refine Ev.steps 1 (pc' := if (F149 M x1) < x2 then 42 else 21) (L' := [some (.ref 22), some (.int x1), some (.int x2)]) (st' := []) rfl ?_
  refine Ev_ite (fun hc => ?_) (fun hc => ?_)
  · replace H := H.1 hc
    subst H
    exact Ev.ret rfl
  · replace H := H.2 hc
    refine Ev.steps 6 (pc' := 31) (L' := [some (.ref 22), some (.int x1), some (.int x2)]) (st' := [.int x2, .int x1, .ref 14, .ref 29]) rfl ?_
    refine Ev.call (y := 153) (args := [.ref 14, .int x1, .int x2]) (rest := [.ref 29]) (r := some (.int (F153 M x1 x2))) rfl (s153 H.1) ?_
    replace H := H.2
    show Ev 2 63 34 [some (.ref 22), some (.int x1), some (.int x2)] [.int (F153 M x1 x2), .ref 29] _ _
    refine Ev.steps 1 (pc' := 35) (L' := [some (.ref 22), some (.int x1), some (.int x2)]) (st' := [.int 1, .int (F153 M x1 x2), .ref 29]) rfl ?_
    refine Ev.wr (a := 29) (g := (upd (M 29) ((F153 M x1 x2) : Int32).toNatClampNeg 1)) (i := (F153 M x1 x2)) (n := 89) (pc' := 36) (L' := [some (.ref 22), some (.int x1), some (.int x2)]) (st' := []) (by decide) H.1 rfl ?_
    replace H := H.2
    refine Ev.steps 2 (pc' := 9) (L' := [some (.ref 22), some (.int x1), some (.int (x2 + 1))]) (st' := []) rfl ?_
    exact Ev.weak [some (.ref 22), some (.int x1), some (.int (x2 + 1))] (gw_leb_le ⟨rfl, rfl, rfl, trivial⟩) H

-- 64 GlassWires$Net floats (I)Z
theorem w64_0 {E : gw_N} {M : Mem} {res : Option Value × gw_H} {x1 : Int32} (H : (P145 M x1 ∧ (((F145 M x1) = 0 → res = (some (.int 0), hs E M)) ∧ (¬ (F145 M x1) = 0 → (inb x1 30 ∧ ((((M 28) (x1 : Int32).toNatClampNeg) = 0 → res = (some (.int 1), hs E M)) ∧ (¬ ((M 28) (x1 : Int32).toNatClampNeg) = 0 → res = (some (.int 0), hs E M)))))))) : Ev 2 64 0 [some (.ref 22), some (.int x1)] [] (hs E M) res := by
  refine Ev.steps 3 (pc' := 5) (L' := [some (.ref 22), some (.int x1)]) (st' := [.int x1, .ref 14]) rfl ?_
  refine Ev.call (y := 145) (args := [.ref 14, .int x1]) (rest := []) (r := some (.int (F145 M x1))) rfl (s145 H.1) ?_
  replace H := H.2
  show Ev 2 64 8 [some (.ref 22), some (.int x1)] [.int (F145 M x1)] _ _
  refine Ev.steps 1 (pc' := if (F145 M x1) = 0 then 24 else 11) (L' := [some (.ref 22), some (.int x1)]) (st' := []) rfl ?_
  refine Ev_ite (fun hc => ?_) (fun hc => ?_)
  · replace H := H.1 hc
    refine Ev.steps 1 (pc' := 25) (L' := [some (.ref 22), some (.int x1)]) (st' := [.int 0]) rfl ?_
    subst H
    exact Ev.ret rfl
  · replace H := H.2 hc
    refine Ev.steps 3 (pc' := 16) (L' := [some (.ref 22), some (.int x1)]) (st' := [.int x1, .ref 28]) rfl ?_
    refine Ev.rd (i := x1) (n := 30) (pc' := 17) (L' := [some (.ref 22), some (.int x1)]) (st' := [.int ((M 28) (x1 : Int32).toNatClampNeg)]) H.1 rfl ?_
    replace H := H.2
    refine Ev.steps 1 (pc' := if ((M 28) (x1 : Int32).toNatClampNeg) = 0 then 20 else 24) (L' := [some (.ref 22), some (.int x1)]) (st' := []) rfl ?_
    refine Ev_ite (fun hc => ?_) (fun hc => ?_)
    · replace H := H.1 hc
      refine Ev.steps 2 (pc' := 25) (L' := [some (.ref 22), some (.int x1)]) (st' := [.int 1]) rfl ?_
      subst H
      exact Ev.ret rfl
    · replace H := H.2 hc
      refine Ev.steps 1 (pc' := 25) (L' := [some (.ref 22), some (.int x1)]) (st' := [.int 0]) rfl ?_
      subst H
      exact Ev.ret rfl

def F64 (M : Mem) (x1 : Int32) : Int32 := (if (F145 M x1) = 0 then 0 else (if ((M 28) (x1 : Int32).toNatClampNeg) = 0 then 1 else 0))
def P64 (M : Mem) (x1 : Int32) : Prop := (P145 M x1 ∧ (((F145 M x1) = 0 → True) ∧ (¬ (F145 M x1) = 0 → (inb x1 30))))
theorem bb64 {M : Mem} {x1 : Int32} : F64 M x1 &&& 1 = F64 M x1 := by
  unfold F64
  (repeat' split) <;> first | rfl | decide
theorem s64 {E : gw_N} {M : Mem} {x1 : Int32} (H : P64 M x1) : Rn 64 [.ref 22, .int x1] (hs E M) (some (.int (F64 M x1))) (hs E M) :=
  w64_0 (⟨H.1, ⟨fun h0 => gw_reteq (if_pos h0), fun h0 => ⟨(H.2.2 h0), ⟨fun h1 => gw_reteq ((if_neg h0).trans (if_pos h1)), fun h1 => gw_reteq ((if_neg h0).trans (if_neg h1))⟩⟩⟩⟩)
-- 69 GlassWires$Net edgesUnder (I)I
theorem w69_0 {E : gw_N} {M : Mem} {res : Option Value × gw_H} {x1 : Int32} (H : Ev 2 69 4 [some (.ref 22), some (.int x1), some (.int 0), some (.int 0)] [] (hs E M) res) : Ev 2 69 0 [some (.ref 22), some (.int x1), none, none] [] (hs E M) res := by
  refine Ev.steps 4 (pc' := 4) (L' := [some (.ref 22), some (.int x1), some (.int 0), some (.int 0)]) (st' := []) rfl ?_
  exact Ev.weak [some (.ref 22), some (.int x1), some (.int 0), some (.int 0)] (gw_leb_le ⟨rfl, rfl, rfl, rfl, trivial⟩) H

theorem w69_4 {E : gw_N} {M : Mem} {res : Option Value × gw_H} {x1 : Int32} {x2 : Int32} {x3 : Int32} (H : ((178 ≤ x3 → res = (some (.int x2), hs E M)) ∧ (¬ 178 ≤ x3 → (inb x3 178 ∧ ((((M 23) (x3 : Int32).toNatClampNeg) < x1 → Ev 2 69 4 [some (.ref 22), some (.int x1), some (.int (x2 + (F206 M 0))), some (.int (x3 + 1))] [] (hs E M) res) ∧ (¬ ((M 23) (x3 : Int32).toNatClampNeg) < x1 → Ev 2 69 4 [some (.ref 22), some (.int x1), some (.int (x2 + (F206 M 1))), some (.int (x3 + 1))] [] (hs E M) res)))))) : Ev 2 69 4 [some (.ref 22), some (.int x1), some (.int x2), some (.int x3)] [] (hs E M) res := by
  refine Ev.steps 3 (pc' := if 178 ≤ x3 then 38 else 11) (L' := [some (.ref 22), some (.int x1), some (.int x2), some (.int x3)]) (st' := []) rfl ?_
  refine Ev_ite (fun hc => ?_) (fun hc => ?_)
  · replace H := H.1 hc
    refine Ev.steps 1 (pc' := 39) (L' := [some (.ref 22), some (.int x1), some (.int x2), some (.int x3)]) (st' := [.int x2]) rfl ?_
    subst H
    exact Ev.ret rfl
  · replace H := H.2 hc
    refine Ev.steps 4 (pc' := 17) (L' := [some (.ref 22), some (.int x1), some (.int x2), some (.int x3)]) (st' := [.int x3, .ref 23, .int x2]) rfl ?_
    refine Ev.rd (i := x3) (n := 178) (pc' := 18) (L' := [some (.ref 22), some (.int x1), some (.int x2), some (.int x3)]) (st' := [.int ((M 23) (x3 : Int32).toNatClampNeg), .int x2]) H.1 rfl ?_
    replace H := H.2
    refine Ev.steps 2 (pc' := if ((M 23) (x3 : Int32).toNatClampNeg) < x1 then 26 else 22) (L' := [some (.ref 22), some (.int x1), some (.int x2), some (.int x3)]) (st' := [.int x2]) rfl ?_
    refine Ev_ite (fun hc => ?_) (fun hc => ?_)
    · replace H := H.1 hc
      refine Ev.steps 1 (pc' := 27) (L' := [some (.ref 22), some (.int x1), some (.int x2), some (.int x3)]) (st' := [.int 0, .int x2]) rfl ?_
      refine Ev.call (y := 206) (args := [.int 0]) (rest := [.int x2]) (r := some (.int (F206 M 0))) rfl (s206) ?_
      show Ev 2 69 30 [some (.ref 22), some (.int x1), some (.int x2), some (.int x3)] [.int (F206 M 0), .int x2] _ _
      refine Ev.steps 4 (pc' := 4) (L' := [some (.ref 22), some (.int x1), some (.int (x2 + (F206 M 0))), some (.int (x3 + 1))]) (st' := []) rfl ?_
      exact Ev.weak [some (.ref 22), some (.int x1), some (.int (x2 + (F206 M 0))), some (.int (x3 + 1))] (gw_leb_le ⟨rfl, rfl, rfl, rfl, trivial⟩) H
    · replace H := H.2 hc
      refine Ev.steps 2 (pc' := 27) (L' := [some (.ref 22), some (.int x1), some (.int x2), some (.int x3)]) (st' := [.int 1, .int x2]) rfl ?_
      refine Ev.call (y := 206) (args := [.int 1]) (rest := [.int x2]) (r := some (.int (F206 M 1))) rfl (s206) ?_
      show Ev 2 69 30 [some (.ref 22), some (.int x1), some (.int x2), some (.int x3)] [.int (F206 M 1), .int x2] _ _
      refine Ev.steps 4 (pc' := 4) (L' := [some (.ref 22), some (.int x1), some (.int (x2 + (F206 M 1))), some (.int (x3 + 1))]) (st' := []) rfl ?_
      exact Ev.weak [some (.ref 22), some (.int x1), some (.int (x2 + (F206 M 1))), some (.int (x3 + 1))] (gw_leb_le ⟨rfl, rfl, rfl, rfl, trivial⟩) H

-- 81 GlassWires$Page lettersIn (J)I
theorem w81_0 {E : gw_N} {M : Mem} {res : Option Value × gw_H} {x0 : Int64} (H : Ev 2 81 4 [some (.long x0), none, some (.int 0), some (.int 0), none] [] (hs E M) res) : Ev 2 81 0 [some (.long x0), none, none, none, none] [] (hs E M) res := by
  refine Ev.steps 4 (pc' := 4) (L' := [some (.long x0), none, some (.int 0), some (.int 0), none]) (st' := []) rfl ?_
  exact Ev.weak [some (.long x0), none, some (.int 0), some (.int 0), none] (gw_leb_le ⟨rfl, rfl, rfl, trivial⟩) H

theorem w81_4 {E : gw_N} {M : Mem} {res : Option Value × gw_H} {x0 : Int64} {x2 : Int32} {x3 : Int32} (H : ((8 ≤ x3 → res = (some (.int x2), hs E M)) ∧ (¬ 8 ≤ x3 → ((126 < (F82 M x0 x3) → res = (some (.int (-1)), hs E M)) ∧ (¬ 126 < (F82 M x0 x3) → (((F82 M x0 x3) = 0 → (((F82 M x0 x3) = 0 → Ev 2 81 4 [some (.long x0), none, some (.int x2), some (.int (x3 + 1)), none] [] (hs E M) res) ∧ (¬ (F82 M x0 x3) = 0 → Ev 2 81 4 [some (.long x0), none, some (.int (x2 + 1)), some (.int (x3 + 1)), none] [] (hs E M) res))) ∧ (¬ (F82 M x0 x3) = 0 → ((x3 ≤ x2 → (((F82 M x0 x3) = 0 → Ev 2 81 4 [some (.long x0), none, some (.int x2), some (.int (x3 + 1)), none] [] (hs E M) res) ∧ (¬ (F82 M x0 x3) = 0 → Ev 2 81 4 [some (.long x0), none, some (.int (x2 + 1)), some (.int (x3 + 1)), none] [] (hs E M) res))) ∧ (¬ x3 ≤ x2 → res = (some (.int (-1)), hs E M)))))))))) : Ev 2 81 4 [some (.long x0), none, some (.int x2), some (.int x3), none] [] (hs E M) res := by
  refine Ev.steps 3 (pc' := if 8 ≤ x3 then 50 else 10) (L' := [some (.long x0), none, some (.int x2), some (.int x3), none]) (st' := []) rfl ?_
  refine Ev_ite (fun hc => ?_) (fun hc => ?_)
  · replace H := H.1 hc
    refine Ev.steps 1 (pc' := 51) (L' := [some (.long x0), none, some (.int x2), some (.int x3), none]) (st' := [.int x2]) rfl ?_
    subst H
    exact Ev.ret rfl
  · replace H := H.2 hc
    refine Ev.steps 2 (pc' := 12) (L' := [some (.long x0), none, some (.int x2), some (.int x3), none]) (st' := [.int x3, .long x0]) rfl ?_
    refine Ev.call (y := 82) (args := [.long x0, .int x3]) (rest := []) (r := some (.int (F82 M x0 x3))) rfl (s82) ?_
    show Ev 2 81 15 [some (.long x0), none, some (.int x2), some (.int x3), none] [.int (F82 M x0 x3)] _ _
    refine Ev.steps 4 (pc' := if 126 < (F82 M x0 x3) then 34 else 24) (L' := [some (.long x0), none, some (.int x2), some (.int x3), some (.int (F82 M x0 x3))]) (st' := []) rfl ?_
    refine Ev_ite (fun hc => ?_) (fun hc => ?_)
    · replace H := H.1 hc
      refine Ev.steps 1 (pc' := 35) (L' := [some (.long x0), none, some (.int x2), some (.int x3), some (.int (F82 M x0 x3))]) (st' := [.int (-1)]) rfl ?_
      subst H
      exact Ev.ret rfl
    · replace H := H.2 hc
      refine Ev.steps 2 (pc' := if (F82 M x0 x3) = 0 then 36 else 29) (L' := [some (.long x0), none, some (.int x2), some (.int x3), some (.int (F82 M x0 x3))]) (st' := []) rfl ?_
      refine Ev_ite (fun hc => ?_) (fun hc => ?_)
      · replace H := H.1 hc
        refine Ev.steps 2 (pc' := if (F82 M x0 x3) = 0 then 44 else 41) (L' := [some (.long x0), none, some (.int x2), some (.int x3), some (.int (F82 M x0 x3))]) (st' := []) rfl ?_
        refine Ev_ite (fun hc => ?_) (fun hc => ?_)
        · replace H := H.1 hc
          refine Ev.steps 2 (pc' := 4) (L' := [some (.long x0), none, some (.int x2), some (.int (x3 + 1)), some (.int (F82 M x0 x3))]) (st' := []) rfl ?_
          exact Ev.weak [some (.long x0), none, some (.int x2), some (.int (x3 + 1)), none] (gw_leb_le ⟨rfl, rfl, rfl, trivial⟩) H
        · replace H := H.2 hc
          refine Ev.steps 3 (pc' := 4) (L' := [some (.long x0), none, some (.int (x2 + 1)), some (.int (x3 + 1)), some (.int (F82 M x0 x3))]) (st' := []) rfl ?_
          exact Ev.weak [some (.long x0), none, some (.int (x2 + 1)), some (.int (x3 + 1)), none] (gw_leb_le ⟨rfl, rfl, rfl, trivial⟩) H
      · replace H := H.2 hc
        refine Ev.steps 3 (pc' := if x3 ≤ x2 then 36 else 34) (L' := [some (.long x0), none, some (.int x2), some (.int x3), some (.int (F82 M x0 x3))]) (st' := []) rfl ?_
        refine Ev_ite (fun hc => ?_) (fun hc => ?_)
        · replace H := H.1 hc
          refine Ev.steps 2 (pc' := if (F82 M x0 x3) = 0 then 44 else 41) (L' := [some (.long x0), none, some (.int x2), some (.int x3), some (.int (F82 M x0 x3))]) (st' := []) rfl ?_
          refine Ev_ite (fun hc => ?_) (fun hc => ?_)
          · replace H := H.1 hc
            refine Ev.steps 2 (pc' := 4) (L' := [some (.long x0), none, some (.int x2), some (.int (x3 + 1)), some (.int (F82 M x0 x3))]) (st' := []) rfl ?_
            exact Ev.weak [some (.long x0), none, some (.int x2), some (.int (x3 + 1)), none] (gw_leb_le ⟨rfl, rfl, rfl, trivial⟩) H
          · replace H := H.2 hc
            refine Ev.steps 3 (pc' := 4) (L' := [some (.long x0), none, some (.int (x2 + 1)), some (.int (x3 + 1)), some (.int (F82 M x0 x3))]) (st' := []) rfl ?_
            exact Ev.weak [some (.long x0), none, some (.int (x2 + 1)), some (.int (x3 + 1)), none] (gw_leb_le ⟨rfl, rfl, rfl, trivial⟩) H
        · replace H := H.2 hc
          refine Ev.steps 1 (pc' := 35) (L' := [some (.long x0), none, some (.int x2), some (.int x3), some (.int (F82 M x0 x3))]) (st' := [.int (-1)]) rfl ?_
          subst H
          exact Ev.ret rfl

-- 84 GlassWires$Page goodMoves (LGlassWires$Grid;II)I
theorem w84_0 {E : gw_N} {M : Mem} {res : Option Value × gw_H} {x2 : Int32} {x3 : Int32} (H : Ev 2 84 9 [some (.ref 12), some (.ref 9), none, none, some (.int x2), some (.int x3), some (.int 0), none] [] (hs E M) res) : Ev 2 84 0 [some (.ref 12), some (.ref 9), some (.int x2), some (.int x3), none, none, none, none] [] (hs E M) res := by
  refine Ev.steps 6 (pc' := 9) (L' := [some (.ref 12), some (.ref 9), some (.int x2), some (.int x3), some (.int x2), some (.int x3), some (.int 0), none]) (st' := []) rfl ?_
  exact Ev.weak [some (.ref 12), some (.ref 9), none, none, some (.int x2), some (.int x3), some (.int 0), none] (gw_leb_le ⟨rfl, rfl, rfl, rfl, rfl, trivial⟩) H

theorem w84_9 {E : gw_N} {M : Mem} {res : Option Value × gw_H} {x4 : Int32} {x5 : Int32} {x6 : Int32} (H : ((24 ≤ x6 → res = (some (.int 24), hs E M)) ∧ (¬ 24 ≤ x6 → (P83 M x6 ∧ (((F83 M x6) = (-1) → res = (some (.int x6), hs E M)) ∧ (¬ (F83 M x6) = (-1) → (((F41 M (x4 + (F53 M (F83 M x6))) (x5 + (F54 M (F83 M x6)))) = 0 → res = (some (.int x6), hs E M)) ∧ (¬ (F41 M (x4 + (F53 M (F83 M x6))) (x5 + (F54 M (F83 M x6)))) = 0 → Ev 2 84 9 [some (.ref 12), some (.ref 9), none, none, some (.int (x4 + (F53 M (F83 M x6)))), some (.int (x5 + (F54 M (F83 M x6)))), some (.int (x6 + 1)), none] [] (hs E M) res)))))))) : Ev 2 84 9 [some (.ref 12), some (.ref 9), none, none, some (.int x4), some (.int x5), some (.int x6), none] [] (hs E M) res := by
  refine Ev.steps 3 (pc' := if 24 ≤ x6 then 70 else 16) (L' := [some (.ref 12), some (.ref 9), none, none, some (.int x4), some (.int x5), some (.int x6), none]) (st' := []) rfl ?_
  refine Ev_ite (fun hc => ?_) (fun hc => ?_)
  · replace H := H.1 hc
    refine Ev.steps 1 (pc' := 72) (L' := [some (.ref 12), some (.ref 9), none, none, some (.int x4), some (.int x5), some (.int x6), none]) (st' := [.int 24]) rfl ?_
    subst H
    exact Ev.ret rfl
  · replace H := H.2 hc
    refine Ev.steps 2 (pc' := 19) (L' := [some (.ref 12), some (.ref 9), none, none, some (.int x4), some (.int x5), some (.int x6), none]) (st' := [.int x6, .ref 12]) rfl ?_
    refine Ev.call (y := 83) (args := [.ref 12, .int x6]) (rest := []) (r := some (.int (F83 M x6))) rfl (s83 H.1) ?_
    replace H := H.2
    show Ev 2 84 22 [some (.ref 12), some (.ref 9), none, none, some (.int x4), some (.int x5), some (.int x6), none] [.int (F83 M x6)] _ _
    refine Ev.steps 3 (pc' := 28) (L' := [some (.ref 12), some (.ref 9), none, none, some (.int x4), some (.int x5), some (.int x6), some (.int (F83 M x6))]) (st' := [.int (F83 M x6), .int x4]) rfl ?_
    refine Ev.call (y := 53) (args := [.int (F83 M x6)]) (rest := [.int x4]) (r := some (.int (F53 M (F83 M x6)))) rfl (s53) ?_
    show Ev 2 84 31 [some (.ref 12), some (.ref 9), none, none, some (.int x4), some (.int x5), some (.int x6), some (.int (F83 M x6))] [.int (F53 M (F83 M x6)), .int x4] _ _
    refine Ev.steps 4 (pc' := 38) (L' := [some (.ref 12), some (.ref 9), none, none, some (.int (x4 + (F53 M (F83 M x6)))), some (.int x5), some (.int x6), some (.int (F83 M x6))]) (st' := [.int (F83 M x6), .int x5]) rfl ?_
    refine Ev.call (y := 54) (args := [.int (F83 M x6)]) (rest := [.int x5]) (r := some (.int (F54 M (F83 M x6)))) rfl (s54) ?_
    show Ev 2 84 41 [some (.ref 12), some (.ref 9), none, none, some (.int (x4 + (F53 M (F83 M x6)))), some (.int x5), some (.int x6), some (.int (F83 M x6))] [.int (F54 M (F83 M x6)), .int x5] _ _
    refine Ev.steps 5 (pc' := if (F83 M x6) = (-1) then 61 else 50) (L' := [some (.ref 12), some (.ref 9), none, none, some (.int (x4 + (F53 M (F83 M x6)))), some (.int (x5 + (F54 M (F83 M x6)))), some (.int x6), some (.int (F83 M x6))]) (st' := []) rfl ?_
    refine Ev_ite (fun hc => ?_) (fun hc => ?_)
    · replace H := H.1 hc
      refine Ev.steps 1 (pc' := 63) (L' := [some (.ref 12), some (.ref 9), none, none, some (.int (x4 + (F53 M (F83 M x6)))), some (.int (x5 + (F54 M (F83 M x6)))), some (.int x6), some (.int (F83 M x6))]) (st' := [.int x6]) rfl ?_
      subst H
      exact Ev.ret rfl
    · replace H := H.2 hc
      refine Ev.steps 3 (pc' := 55) (L' := [some (.ref 12), some (.ref 9), none, none, some (.int (x4 + (F53 M (F83 M x6)))), some (.int (x5 + (F54 M (F83 M x6)))), some (.int x6), some (.int (F83 M x6))]) (st' := [.int (x5 + (F54 M (F83 M x6))), .int (x4 + (F53 M (F83 M x6))), .ref 9]) rfl ?_
      refine Ev.call (y := 41) (args := [.ref 9, .int (x4 + (F53 M (F83 M x6))), .int (x5 + (F54 M (F83 M x6)))]) (rest := []) (r := some (.int (F41 M (x4 + (F53 M (F83 M x6))) (x5 + (F54 M (F83 M x6)))))) rfl (s41) ?_
      show Ev 2 84 58 [some (.ref 12), some (.ref 9), none, none, some (.int (x4 + (F53 M (F83 M x6)))), some (.int (x5 + (F54 M (F83 M x6)))), some (.int x6), some (.int (F83 M x6))] [.int (F41 M (x4 + (F53 M (F83 M x6))) (x5 + (F54 M (F83 M x6))))] _ _
      refine Ev.steps 1 (pc' := if (F41 M (x4 + (F53 M (F83 M x6))) (x5 + (F54 M (F83 M x6)))) = 0 then 61 else 64) (L' := [some (.ref 12), some (.ref 9), none, none, some (.int (x4 + (F53 M (F83 M x6)))), some (.int (x5 + (F54 M (F83 M x6)))), some (.int x6), some (.int (F83 M x6))]) (st' := []) rfl ?_
      refine Ev_ite (fun hc => ?_) (fun hc => ?_)
      · replace H := H.1 hc
        refine Ev.steps 1 (pc' := 63) (L' := [some (.ref 12), some (.ref 9), none, none, some (.int (x4 + (F53 M (F83 M x6)))), some (.int (x5 + (F54 M (F83 M x6)))), some (.int x6), some (.int (F83 M x6))]) (st' := [.int x6]) rfl ?_
        subst H
        exact Ev.ret rfl
      · replace H := H.2 hc
        refine Ev.steps 2 (pc' := 9) (L' := [some (.ref 12), some (.ref 9), none, none, some (.int (x4 + (F53 M (F83 M x6)))), some (.int (x5 + (F54 M (F83 M x6)))), some (.int (x6 + 1)), some (.int (F83 M x6))]) (st' := []) rfl ?_
        exact Ev.weak [some (.ref 12), some (.ref 9), none, none, some (.int (x4 + (F53 M (F83 M x6)))), some (.int (x5 + (F54 M (F83 M x6)))), some (.int (x6 + 1)), none] (gw_leb_le ⟨rfl, rfl, rfl, rfl, rfl, trivial⟩) H

-- 86 GlassWires$Page digestOn (J)J
theorem w86_0 {E : gw_N} {M : Mem} {res : Option Value × gw_H} {x1 : Int64} (H : Ev 2 86 5 [some (.ref 12), none, none, some (.long x1), none, some (.int 0)] [] (hs E M) res) : Ev 2 86 0 [some (.ref 12), some (.long x1), none, none, none, none] [] (hs E M) res := by
  refine Ev.steps 4 (pc' := 5) (L' := [some (.ref 12), some (.long x1), none, some (.long x1), none, some (.int 0)]) (st' := []) rfl ?_
  exact Ev.weak [some (.ref 12), none, none, some (.long x1), none, some (.int 0)] (gw_leb_le ⟨rfl, rfl, rfl, trivial⟩) H

theorem w86_5 {E : gw_N} {M : Mem} {res : Option Value × gw_H} {x3 : Int64} {x5 : Int32} (H : ((((M 12) 1) ≤ x5 → res = (some (.long x3), hs E M)) ∧ (¬ ((M 12) 1) ≤ x5 → (inb x5 40 ∧ Ev 2 86 5 [some (.ref 12), none, none, some (.long (F207 M x3 (Int32.toInt64 ((M 13) (x5 : Int32).toNatClampNeg)))), none, some (.int (x5 + 1))] [] (hs E M) res)))) : Ev 2 86 5 [some (.ref 12), none, none, some (.long x3), none, some (.int x5)] [] (hs E M) res := by
  refine Ev.steps 4 (pc' := if ((M 12) 1) ≤ x5 then 33 else 14) (L' := [some (.ref 12), none, none, some (.long x3), none, some (.int x5)]) (st' := []) rfl ?_
  refine Ev_ite (fun hc => ?_) (fun hc => ?_)
  · replace H := H.1 hc
    refine Ev.steps 1 (pc' := 34) (L' := [some (.ref 12), none, none, some (.long x3), none, some (.int x5)]) (st' := [.long x3]) rfl ?_
    subst H
    exact Ev.ret rfl
  · replace H := H.2 hc
    refine Ev.steps 4 (pc' := 21) (L' := [some (.ref 12), none, none, some (.long x3), none, some (.int x5)]) (st' := [.int x5, .ref 13, .long x3]) rfl ?_
    refine Ev.rd (i := x5) (n := 40) (pc' := 22) (L' := [some (.ref 12), none, none, some (.long x3), none, some (.int x5)]) (st' := [.int ((M 13) (x5 : Int32).toNatClampNeg), .long x3]) H.1 rfl ?_
    replace H := H.2
    refine Ev.steps 1 (pc' := 23) (L' := [some (.ref 12), none, none, some (.long x3), none, some (.int x5)]) (st' := [.long (Int32.toInt64 ((M 13) (x5 : Int32).toNatClampNeg)), .long x3]) rfl ?_
    refine Ev.call (y := 207) (args := [.long x3, .long (Int32.toInt64 ((M 13) (x5 : Int32).toNatClampNeg))]) (rest := []) (r := some (.long (F207 M x3 (Int32.toInt64 ((M 13) (x5 : Int32).toNatClampNeg))))) rfl (s207) ?_
    show Ev 2 86 26 [some (.ref 12), none, none, some (.long x3), none, some (.int x5)] [.long (F207 M x3 (Int32.toInt64 ((M 13) (x5 : Int32).toNatClampNeg)))] _ _
    refine Ev.steps 3 (pc' := 5) (L' := [some (.ref 12), none, none, some (.long (F207 M x3 (Int32.toInt64 ((M 13) (x5 : Int32).toNatClampNeg)))), none, some (.int (x5 + 1))]) (st' := []) rfl ?_
    exact Ev.weak [some (.ref 12), none, none, some (.long (F207 M x3 (Int32.toInt64 ((M 13) (x5 : Int32).toNatClampNeg)))), none, some (.int (x5 + 1))] (gw_leb_le ⟨rfl, rfl, rfl, trivial⟩) H

-- 100 GlassWires$Palette bearableHeat (I)I
theorem w100_0 {E : gw_N} {M : Mem} {res : Option Value × gw_H} {x1 : Int32} (H : (P99 M x1 ∧ res = (some (.int ((F99 M x1) + 50)), hs E M))) : Ev 2 100 0 [some (.ref 40), some (.int x1)] [] (hs E M) res := by
  refine Ev.steps 2 (pc' := 2) (L' := [some (.ref 40), some (.int x1)]) (st' := [.int x1, .ref 40]) rfl ?_
  refine Ev.call (y := 99) (args := [.ref 40, .int x1]) (rest := []) (r := some (.int (F99 M x1))) rfl (s99 H.1) ?_
  replace H := H.2
  show Ev 2 100 5 [some (.ref 40), some (.int x1)] [.int (F99 M x1)] _ _
  refine Ev.steps 2 (pc' := 8) (L' := [some (.ref 40), some (.int x1)]) (st' := [.int ((F99 M x1) + 50)]) rfl ?_
  subst H
  exact Ev.ret rfl

def F100 (M : Mem) (x1 : Int32) : Int32 := ((F99 M x1) + 50)
def P100 (M : Mem) (x1 : Int32) : Prop := (P99 M x1)
theorem s100 {E : gw_N} {M : Mem} {x1 : Int32} (H : P100 M x1) : Rn 100 [.ref 40, .int x1] (hs E M) (some (.int (F100 M x1))) (hs E M) :=
  w100_0 (⟨H, rfl⟩)
-- 108 GlassWires$Palette fillsOf (I)I
theorem w108_0 {E : gw_N} {M : Mem} {res : Option Value × gw_H} {x1 : Int32} (H : Ev 2 108 4 [some (.ref 40), some (.int x1), some (.int 0), some (.int 0)] [] (hs E M) res) : Ev 2 108 0 [some (.ref 40), some (.int x1), none, none] [] (hs E M) res := by
  refine Ev.steps 4 (pc' := 4) (L' := [some (.ref 40), some (.int x1), some (.int 0), some (.int 0)]) (st' := []) rfl ?_
  exact Ev.weak [some (.ref 40), some (.int x1), some (.int 0), some (.int 0)] (gw_leb_le ⟨rfl, rfl, rfl, rfl, trivial⟩) H

theorem w108_4 {E : gw_N} {M : Mem} {res : Option Value × gw_H} {x1 : Int32} {x2 : Int32} {x3 : Int32} (H : (P103 M ∧ ((((F103 M) - 1) ≤ x2 → res = (some (.int x3), hs E M)) ∧ (¬ ((F103 M) - 1) ≤ x2 → (P103 M ∧ (((F103 M) ≤ x3 → res = (some (.int x3), hs E M)) ∧ (¬ (F103 M) ≤ x3 → (P103 M ∧ (P102 M x1 ((F103 M) - x2) ∧ Ev 2 108 4 [some (.ref 40), some (.int x1), some (.int (x2 + (F102 M x1 ((F103 M) - x2)))), some (.int (x3 + 1))] [] (hs E M) res))))))))) : Ev 2 108 4 [some (.ref 40), some (.int x1), some (.int x2), some (.int x3)] [] (hs E M) res := by
  refine Ev.steps 2 (pc' := 6) (L' := [some (.ref 40), some (.int x1), some (.int x2), some (.int x3)]) (st' := [.ref 40, .int x2]) rfl ?_
  refine Ev.call (y := 103) (args := [.ref 40]) (rest := [.int x2]) (r := some (.int (F103 M))) rfl (s103 H.1) ?_
  replace H := H.2
  show Ev 2 108 9 [some (.ref 40), some (.int x1), some (.int x2), some (.int x3)] [.int (F103 M), .int x2] _ _
  refine Ev.steps 3 (pc' := if ((F103 M) - 1) ≤ x2 then 42 else 14) (L' := [some (.ref 40), some (.int x1), some (.int x2), some (.int x3)]) (st' := []) rfl ?_
  refine Ev_ite (fun hc => ?_) (fun hc => ?_)
  · replace H := H.1 hc
    refine Ev.steps 1 (pc' := 43) (L' := [some (.ref 40), some (.int x1), some (.int x2), some (.int x3)]) (st' := [.int x3]) rfl ?_
    subst H
    exact Ev.ret rfl
  · replace H := H.2 hc
    refine Ev.steps 2 (pc' := 16) (L' := [some (.ref 40), some (.int x1), some (.int x2), some (.int x3)]) (st' := [.ref 40, .int x3]) rfl ?_
    refine Ev.call (y := 103) (args := [.ref 40]) (rest := [.int x3]) (r := some (.int (F103 M))) rfl (s103 H.1) ?_
    replace H := H.2
    show Ev 2 108 19 [some (.ref 40), some (.int x1), some (.int x2), some (.int x3)] [.int (F103 M), .int x3] _ _
    refine Ev.steps 1 (pc' := if (F103 M) ≤ x3 then 42 else 22) (L' := [some (.ref 40), some (.int x1), some (.int x2), some (.int x3)]) (st' := []) rfl ?_
    refine Ev_ite (fun hc => ?_) (fun hc => ?_)
    · replace H := H.1 hc
      refine Ev.steps 1 (pc' := 43) (L' := [some (.ref 40), some (.int x1), some (.int x2), some (.int x3)]) (st' := [.int x3]) rfl ?_
      subst H
      exact Ev.ret rfl
    · replace H := H.2 hc
      refine Ev.steps 4 (pc' := 26) (L' := [some (.ref 40), some (.int x1), some (.int x2), some (.int x3)]) (st' := [.ref 40, .int x1, .ref 40, .int x2]) rfl ?_
      refine Ev.call (y := 103) (args := [.ref 40]) (rest := [.int x1, .ref 40, .int x2]) (r := some (.int (F103 M))) rfl (s103 H.1) ?_
      replace H := H.2
      show Ev 2 108 29 [some (.ref 40), some (.int x1), some (.int x2), some (.int x3)] [.int (F103 M), .int x1, .ref 40, .int x2] _ _
      refine Ev.steps 2 (pc' := 31) (L' := [some (.ref 40), some (.int x1), some (.int x2), some (.int x3)]) (st' := [.int ((F103 M) - x2), .int x1, .ref 40, .int x2]) rfl ?_
      refine Ev.call (y := 102) (args := [.ref 40, .int x1, .int ((F103 M) - x2)]) (rest := [.int x2]) (r := some (.int (F102 M x1 ((F103 M) - x2)))) rfl (s102 H.1) ?_
      replace H := H.2
      show Ev 2 108 34 [some (.ref 40), some (.int x1), some (.int x2), some (.int x3)] [.int (F102 M x1 ((F103 M) - x2)), .int x2] _ _
      refine Ev.steps 4 (pc' := 4) (L' := [some (.ref 40), some (.int x1), some (.int (x2 + (F102 M x1 ((F103 M) - x2)))), some (.int (x3 + 1))]) (st' := []) rfl ?_
      exact Ev.weak [some (.ref 40), some (.int x1), some (.int (x2 + (F102 M x1 ((F103 M) - x2)))), some (.int (x3 + 1))] (gw_leb_le ⟨rfl, rfl, rfl, rfl, trivial⟩) H

-- 109 GlassWires$Palette digestOn (J)J
theorem w109_0 {E : gw_N} {M : Mem} {res : Option Value × gw_H} {x1 : Int64} (H : Ev 2 109 5 [some (.ref 40), none, none, some (.long x1), none, some (.int 0), none] [] (hs E M) res) : Ev 2 109 0 [some (.ref 40), some (.long x1), none, none, none, none, none] [] (hs E M) res := by
  refine Ev.steps 4 (pc' := 5) (L' := [some (.ref 40), some (.long x1), none, some (.long x1), none, some (.int 0), none]) (st' := []) rfl ?_
  exact Ev.weak [some (.ref 40), none, none, some (.long x1), none, some (.int 0), none] (gw_leb_le ⟨rfl, rfl, rfl, trivial⟩) H

theorem w109_5 {E : gw_N} {M : Mem} {res : Option Value × gw_H} {x3 : Int64} {x5 : Int32} (H : ((24 ≤ x5 → Ev 2 109 34 [some (.ref 40), none, none, some (.long x3), none, some (.int 0), none] [] (hs E M) res) ∧ (¬ 24 ≤ x5 → (inb x5 24 ∧ Ev 2 109 5 [some (.ref 40), none, none, some (.long (F207 M x3 (Int32.toInt64 ((M 41) (x5 : Int32).toNatClampNeg)))), none, some (.int (x5 + 1)), none] [] (hs E M) res)))) : Ev 2 109 5 [some (.ref 40), none, none, some (.long x3), none, some (.int x5), none] [] (hs E M) res := by
  refine Ev.steps 3 (pc' := if 24 ≤ x5 then 31 else 12) (L' := [some (.ref 40), none, none, some (.long x3), none, some (.int x5), none]) (st' := []) rfl ?_
  refine Ev_ite (fun hc => ?_) (fun hc => ?_)
  · replace H := H.1 hc
    refine Ev.steps 2 (pc' := 34) (L' := [some (.ref 40), none, none, some (.long x3), none, some (.int 0), none]) (st' := []) rfl ?_
    exact Ev.weak [some (.ref 40), none, none, some (.long x3), none, some (.int 0), none] (gw_leb_le ⟨rfl, rfl, rfl, trivial⟩) H
  · replace H := H.2 hc
    refine Ev.steps 4 (pc' := 19) (L' := [some (.ref 40), none, none, some (.long x3), none, some (.int x5), none]) (st' := [.int x5, .ref 41, .long x3]) rfl ?_
    refine Ev.rd (i := x5) (n := 24) (pc' := 20) (L' := [some (.ref 40), none, none, some (.long x3), none, some (.int x5), none]) (st' := [.int ((M 41) (x5 : Int32).toNatClampNeg), .long x3]) H.1 rfl ?_
    replace H := H.2
    refine Ev.steps 1 (pc' := 21) (L' := [some (.ref 40), none, none, some (.long x3), none, some (.int x5), none]) (st' := [.long (Int32.toInt64 ((M 41) (x5 : Int32).toNatClampNeg)), .long x3]) rfl ?_
    refine Ev.call (y := 207) (args := [.long x3, .long (Int32.toInt64 ((M 41) (x5 : Int32).toNatClampNeg))]) (rest := []) (r := some (.long (F207 M x3 (Int32.toInt64 ((M 41) (x5 : Int32).toNatClampNeg))))) rfl (s207) ?_
    show Ev 2 109 24 [some (.ref 40), none, none, some (.long x3), none, some (.int x5), none] [.long (F207 M x3 (Int32.toInt64 ((M 41) (x5 : Int32).toNatClampNeg)))] _ _
    refine Ev.steps 3 (pc' := 5) (L' := [some (.ref 40), none, none, some (.long (F207 M x3 (Int32.toInt64 ((M 41) (x5 : Int32).toNatClampNeg)))), none, some (.int (x5 + 1)), none]) (st' := []) rfl ?_
    exact Ev.weak [some (.ref 40), none, none, some (.long (F207 M x3 (Int32.toInt64 ((M 41) (x5 : Int32).toNatClampNeg)))), none, some (.int (x5 + 1)), none] (gw_leb_le ⟨rfl, rfl, rfl, trivial⟩) H

theorem w109_34 {E : gw_N} {M : Mem} {res : Option Value × gw_H} {x3 : Int64} {x5 : Int32} (H : ((8 ≤ x5 → Ev 2 109 86 [some (.ref 40), none, none, some (.long x3), none, some (.int 0), none] [] (hs E M) res) ∧ (¬ 8 ≤ x5 → Ev 2 109 47 [some (.ref 40), none, none, some (.long x3), none, some (.int x5), some (.int (x5 + 1))] [] (hs E M) res))) : Ev 2 109 34 [some (.ref 40), none, none, some (.long x3), none, some (.int x5), none] [] (hs E M) res := by
  refine Ev.steps 3 (pc' := if 8 ≤ x5 then 83 else 41) (L' := [some (.ref 40), none, none, some (.long x3), none, some (.int x5), none]) (st' := []) rfl ?_
  refine Ev_ite (fun hc => ?_) (fun hc => ?_)
  · replace H := H.1 hc
    refine Ev.steps 2 (pc' := 86) (L' := [some (.ref 40), none, none, some (.long x3), none, some (.int 0), none]) (st' := []) rfl ?_
    exact Ev.weak [some (.ref 40), none, none, some (.long x3), none, some (.int 0), none] (gw_leb_le ⟨rfl, rfl, rfl, trivial⟩) H
  · replace H := H.2 hc
    refine Ev.steps 4 (pc' := 47) (L' := [some (.ref 40), none, none, some (.long x3), none, some (.int x5), some (.int (x5 + 1))]) (st' := []) rfl ?_
    exact Ev.weak [some (.ref 40), none, none, some (.long x3), none, some (.int x5), some (.int (x5 + 1))] (gw_leb_le ⟨rfl, rfl, rfl, rfl, trivial⟩) H

theorem w109_86 {E : gw_N} {M : Mem} {res : Option Value × gw_H} {x3 : Int64} {x5 : Int32} (H : ((3 ≤ x5 → res = (some (.long x3), hs E M)) ∧ (¬ 3 ≤ x5 → (inb x5 3 ∧ Ev 2 109 86 [some (.ref 40), none, none, some (.long (F207 M x3 (Int32.toInt64 ((M 43) (x5 : Int32).toNatClampNeg)))), none, some (.int (x5 + 1)), none] [] (hs E M) res)))) : Ev 2 109 86 [some (.ref 40), none, none, some (.long x3), none, some (.int x5), none] [] (hs E M) res := by
  refine Ev.steps 3 (pc' := if 3 ≤ x5 then 111 else 92) (L' := [some (.ref 40), none, none, some (.long x3), none, some (.int x5), none]) (st' := []) rfl ?_
  refine Ev_ite (fun hc => ?_) (fun hc => ?_)
  · replace H := H.1 hc
    refine Ev.steps 1 (pc' := 112) (L' := [some (.ref 40), none, none, some (.long x3), none, some (.int x5), none]) (st' := [.long x3]) rfl ?_
    subst H
    exact Ev.ret rfl
  · replace H := H.2 hc
    refine Ev.steps 4 (pc' := 99) (L' := [some (.ref 40), none, none, some (.long x3), none, some (.int x5), none]) (st' := [.int x5, .ref 43, .long x3]) rfl ?_
    refine Ev.rd (i := x5) (n := 3) (pc' := 100) (L' := [some (.ref 40), none, none, some (.long x3), none, some (.int x5), none]) (st' := [.int ((M 43) (x5 : Int32).toNatClampNeg), .long x3]) H.1 rfl ?_
    replace H := H.2
    refine Ev.steps 1 (pc' := 101) (L' := [some (.ref 40), none, none, some (.long x3), none, some (.int x5), none]) (st' := [.long (Int32.toInt64 ((M 43) (x5 : Int32).toNatClampNeg)), .long x3]) rfl ?_
    refine Ev.call (y := 207) (args := [.long x3, .long (Int32.toInt64 ((M 43) (x5 : Int32).toNatClampNeg))]) (rest := []) (r := some (.long (F207 M x3 (Int32.toInt64 ((M 43) (x5 : Int32).toNatClampNeg))))) rfl (s207) ?_
    show Ev 2 109 104 [some (.ref 40), none, none, some (.long x3), none, some (.int x5), none] [.long (F207 M x3 (Int32.toInt64 ((M 43) (x5 : Int32).toNatClampNeg)))] _ _
    refine Ev.steps 3 (pc' := 86) (L' := [some (.ref 40), none, none, some (.long (F207 M x3 (Int32.toInt64 ((M 43) (x5 : Int32).toNatClampNeg)))), none, some (.int (x5 + 1)), none]) (st' := []) rfl ?_
    exact Ev.weak [some (.ref 40), none, none, some (.long (F207 M x3 (Int32.toInt64 ((M 43) (x5 : Int32).toNatClampNeg)))), none, some (.int (x5 + 1)), none] (gw_leb_le ⟨rfl, rfl, rfl, trivial⟩) H

theorem w109_47 {E : gw_N} {M : Mem} {res : Option Value × gw_H} {x3 : Int64} {x5 : Int32} {x6 : Int32} (H : ((8 ≤ x6 → Ev 2 109 34 [some (.ref 40), none, none, some (.long x3), none, some (.int (x5 + 1)), none] [] (hs E M) res) ∧ (¬ 8 ≤ x6 → (P106 M x5 x6 ∧ Ev 2 109 47 [some (.ref 40), none, none, some (.long (F207 M x3 (Int32.toInt64 (F206 M (F106 M x5 x6))))), none, some (.int x5), some (.int (x6 + 1))] [] (hs E M) res)))) : Ev 2 109 47 [some (.ref 40), none, none, some (.long x3), none, some (.int x5), some (.int x6)] [] (hs E M) res := by
  refine Ev.steps 3 (pc' := if 8 ≤ x6 then 77 else 54) (L' := [some (.ref 40), none, none, some (.long x3), none, some (.int x5), some (.int x6)]) (st' := []) rfl ?_
  refine Ev_ite (fun hc => ?_) (fun hc => ?_)
  · replace H := H.1 hc
    refine Ev.steps 2 (pc' := 34) (L' := [some (.ref 40), none, none, some (.long x3), none, some (.int (x5 + 1)), some (.int x6)]) (st' := []) rfl ?_
    exact Ev.weak [some (.ref 40), none, none, some (.long x3), none, some (.int (x5 + 1)), none] (gw_leb_le ⟨rfl, rfl, rfl, trivial⟩) H
  · replace H := H.2 hc
    refine Ev.steps 4 (pc' := 60) (L' := [some (.ref 40), none, none, some (.long x3), none, some (.int x5), some (.int x6)]) (st' := [.int x6, .int x5, .ref 40, .long x3]) rfl ?_
    refine Ev.call (y := 106) (args := [.ref 40, .int x5, .int x6]) (rest := [.long x3]) (r := some (.int (F106 M x5 x6))) rfl (s106 H.1) ?_
    replace H := H.2
    show Ev 2 109 63 [some (.ref 40), none, none, some (.long x3), none, some (.int x5), some (.int x6)] [.int (F106 M x5 x6), .long x3] _ _
    refine Ev.call (y := 206) (args := [.int (F106 M x5 x6)]) (rest := [.long x3]) (r := some (.int (F206 M (F106 M x5 x6)))) rfl (s206) ?_
    show Ev 2 109 66 [some (.ref 40), none, none, some (.long x3), none, some (.int x5), some (.int x6)] [.int (F206 M (F106 M x5 x6)), .long x3] _ _
    refine Ev.steps 1 (pc' := 67) (L' := [some (.ref 40), none, none, some (.long x3), none, some (.int x5), some (.int x6)]) (st' := [.long (Int32.toInt64 (F206 M (F106 M x5 x6))), .long x3]) rfl ?_
    refine Ev.call (y := 207) (args := [.long x3, .long (Int32.toInt64 (F206 M (F106 M x5 x6)))]) (rest := []) (r := some (.long (F207 M x3 (Int32.toInt64 (F206 M (F106 M x5 x6)))))) rfl (s207) ?_
    show Ev 2 109 70 [some (.ref 40), none, none, some (.long x3), none, some (.int x5), some (.int x6)] [.long (F207 M x3 (Int32.toInt64 (F206 M (F106 M x5 x6))))] _ _
    refine Ev.steps 3 (pc' := 47) (L' := [some (.ref 40), none, none, some (.long (F207 M x3 (Int32.toInt64 (F206 M (F106 M x5 x6))))), none, some (.int x5), some (.int (x6 + 1))]) (st' := []) rfl ?_
    exact Ev.weak [some (.ref 40), none, none, some (.long (F207 M x3 (Int32.toInt64 (F206 M (F106 M x5 x6))))), none, some (.int x5), some (.int (x6 + 1))] (gw_leb_le ⟨rfl, rfl, rfl, rfl, trivial⟩) H

-- 113 GlassWires$Plan coolest (I)I
theorem w113_0 {E : gw_N} {M : Mem} {res : Option Value × gw_H} {x1 : Int32} (H : Ev 2 113 9 [some (.ref 50), some (.int x1), some (.int 0), some (.int 999), some (.int 0)] [] (hs E M) res) : Ev 2 113 0 [some (.ref 50), some (.int x1), none, none, none] [] (hs E M) res := by
  refine Ev.steps 6 (pc' := 9) (L' := [some (.ref 50), some (.int x1), some (.int 0), some (.int 999), some (.int 0)]) (st' := []) rfl ?_
  exact Ev.weak [some (.ref 50), some (.int x1), some (.int 0), some (.int 999), some (.int 0)] (gw_leb_le ⟨rfl, rfl, rfl, rfl, rfl, trivial⟩) H

theorem w113_9 {E : gw_N} {M : Mem} {res : Option Value × gw_H} {x1 : Int32} {x2 : Int32} {x3 : Int32} {x4 : Int32} (H : ((8 ≤ x4 → res = (some (.int x2), hs E M)) ∧ (¬ 8 ≤ x4 → ((((x1 >>> (x4 &&& 31)) &&& 1) = 1 → (P99 M x4 ∧ ((x3 ≤ (F99 M x4) → Ev 2 113 9 [some (.ref 50), some (.int x1), some (.int x2), some (.int x3), some (.int (x4 + 1))] [] (hs E M) res) ∧ (¬ x3 ≤ (F99 M x4) → (P99 M x4 ∧ Ev 2 113 9 [some (.ref 50), some (.int x1), some (.int x4), some (.int (F99 M x4)), some (.int (x4 + 1))] [] (hs E M) res))))) ∧ (¬ ((x1 >>> (x4 &&& 31)) &&& 1) = 1 → Ev 2 113 9 [some (.ref 50), some (.int x1), some (.int x2), some (.int x3), some (.int (x4 + 1))] [] (hs E M) res))))) : Ev 2 113 9 [some (.ref 50), some (.int x1), some (.int x2), some (.int x3), some (.int x4)] [] (hs E M) res := by
  refine Ev.steps 3 (pc' := if 8 ≤ x4 then 58 else 16) (L' := [some (.ref 50), some (.int x1), some (.int x2), some (.int x3), some (.int x4)]) (st' := []) rfl ?_
  refine Ev_ite (fun hc => ?_) (fun hc => ?_)
  · replace H := H.1 hc
    refine Ev.steps 1 (pc' := 59) (L' := [some (.ref 50), some (.int x1), some (.int x2), some (.int x3), some (.int x4)]) (st' := [.int x2]) rfl ?_
    subst H
    exact Ev.ret rfl
  · replace H := H.2 hc
    refine Ev.steps 7 (pc' := if ((x1 >>> (x4 &&& 31)) &&& 1) = 1 then 26 else 52) (L' := [some (.ref 50), some (.int x1), some (.int x2), some (.int x3), some (.int x4)]) (st' := []) rfl ?_
    refine Ev_ite (fun hc => ?_) (fun hc => ?_)
    · replace H := H.1 hc
      refine Ev.steps 3 (pc' := 32) (L' := [some (.ref 50), some (.int x1), some (.int x2), some (.int x3), some (.int x4)]) (st' := [.int x4, .ref 40]) rfl ?_
      refine Ev.call (y := 99) (args := [.ref 40, .int x4]) (rest := []) (r := some (.int (F99 M x4))) rfl (s99 H.1) ?_
      replace H := H.2
      show Ev 2 113 35 [some (.ref 50), some (.int x1), some (.int x2), some (.int x3), some (.int x4)] [.int (F99 M x4)] _ _
      refine Ev.steps 2 (pc' := if x3 ≤ (F99 M x4) then 52 else 39) (L' := [some (.ref 50), some (.int x1), some (.int x2), some (.int x3), some (.int x4)]) (st' := []) rfl ?_
      refine Ev_ite (fun hc => ?_) (fun hc => ?_)
      · replace H := H.1 hc
        refine Ev.steps 2 (pc' := 9) (L' := [some (.ref 50), some (.int x1), some (.int x2), some (.int x3), some (.int (x4 + 1))]) (st' := []) rfl ?_
        exact Ev.weak [some (.ref 50), some (.int x1), some (.int x2), some (.int x3), some (.int (x4 + 1))] (gw_leb_le ⟨rfl, rfl, rfl, rfl, rfl, trivial⟩) H
      · replace H := H.2 hc
        refine Ev.steps 5 (pc' := 48) (L' := [some (.ref 50), some (.int x1), some (.int x4), some (.int x3), some (.int x4)]) (st' := [.int x4, .ref 40]) rfl ?_
        refine Ev.call (y := 99) (args := [.ref 40, .int x4]) (rest := []) (r := some (.int (F99 M x4))) rfl (s99 H.1) ?_
        replace H := H.2
        show Ev 2 113 51 [some (.ref 50), some (.int x1), some (.int x4), some (.int x3), some (.int x4)] [.int (F99 M x4)] _ _
        refine Ev.steps 3 (pc' := 9) (L' := [some (.ref 50), some (.int x1), some (.int x4), some (.int (F99 M x4)), some (.int (x4 + 1))]) (st' := []) rfl ?_
        exact Ev.weak [some (.ref 50), some (.int x1), some (.int x4), some (.int (F99 M x4)), some (.int (x4 + 1))] (gw_leb_le ⟨rfl, rfl, rfl, rfl, rfl, trivial⟩) H
    · replace H := H.2 hc
      refine Ev.steps 2 (pc' := 9) (L' := [some (.ref 50), some (.int x1), some (.int x2), some (.int x3), some (.int (x4 + 1))]) (st' := []) rfl ?_
      exact Ev.weak [some (.ref 50), some (.int x1), some (.int x2), some (.int x3), some (.int (x4 + 1))] (gw_leb_le ⟨rfl, rfl, rfl, rfl, rfl, trivial⟩) H

-- 125 GlassWires$Rods addUpLengths (LGlassWires$Wires;)V
theorem w125_0 {E : gw_N} {M : Mem} {res : Option Value × gw_H}  (H : (inb 0 256 ∧ Ev 2 125 11 [some (.ref 54), some (.ref 14), some (.int 1), some (.int 0), none] [] (hs E (up M 57 (upd (M 57) (0 : Int32).toNatClampNeg 0))) res)) : Ev 2 125 0 [some (.ref 54), some (.ref 14), none, none, none] [] (hs E M) res := by
  refine Ev.steps 6 (pc' := 8) (L' := [some (.ref 54), some (.ref 14), some (.int 1), none, none]) (st' := [.int 0, .int 0, .ref 57]) rfl ?_
  refine Ev.wr (a := 57) (g := (upd (M 57) (0 : Int32).toNatClampNeg 0)) (i := 0) (n := 256) (pc' := 9) (L' := [some (.ref 54), some (.ref 14), some (.int 1), none, none]) (st' := []) (by decide) H.1 rfl ?_
  replace H := H.2
  refine Ev.steps 2 (pc' := 11) (L' := [some (.ref 54), some (.ref 14), some (.int 1), some (.int 0), none]) (st' := []) rfl ?_
  exact Ev.weak [some (.ref 54), some (.ref 14), some (.int 1), some (.int 0), none] (gw_leb_le ⟨rfl, rfl, rfl, rfl, trivial⟩) H

theorem w125_11 {E : gw_N} {M : Mem} {res : Option Value × gw_H} {x2 : Int32} {x3 : Int32} (H : (((F143 M) ≤ x3 → res = (none, hs E M)) ∧ (¬ (F143 M) ≤ x3 → (P145 M x3 ∧ (((F145 M x3) = 0 → Ev 2 125 11 [some (.ref 54), some (.ref 14), some (.int x2), some (.int (x3 + 1)), none] [] (hs E M) res) ∧ (¬ (F145 M x3) = 0 → ((256 ≤ x2 → Ev 2 125 11 [some (.ref 54), some (.ref 14), some (.int x2), some (.int (x3 + 1)), none] [] (hs E M) res) ∧ (¬ 256 ≤ x2 → Ev 2 125 37 [some (.ref 54), some (.ref 14), some (.int x2), some (.int x3), some (.int 0)] [] (hs E M) res)))))))) : Ev 2 125 11 [some (.ref 54), some (.ref 14), some (.int x2), some (.int x3), none] [] (hs E M) res := by
  refine Ev.steps 2 (pc' := 13) (L' := [some (.ref 54), some (.ref 14), some (.int x2), some (.int x3), none]) (st' := [.ref 14, .int x3]) rfl ?_
  refine Ev.call (y := 143) (args := [.ref 14]) (rest := [.int x3]) (r := some (.int (F143 M))) rfl (s143) ?_
  show Ev 2 125 16 [some (.ref 54), some (.ref 14), some (.int x2), some (.int x3), none] [.int (F143 M), .int x3] _ _
  refine Ev.steps 1 (pc' := if (F143 M) ≤ x3 then 81 else 19) (L' := [some (.ref 54), some (.ref 14), some (.int x2), some (.int x3), none]) (st' := []) rfl ?_
  refine Ev_ite (fun hc => ?_) (fun hc => ?_)
  · replace H := H.1 hc
    subst H
    exact Ev.ret rfl
  · replace H := H.2 hc
    refine Ev.steps 2 (pc' := 21) (L' := [some (.ref 54), some (.ref 14), some (.int x2), some (.int x3), none]) (st' := [.int x3, .ref 14]) rfl ?_
    refine Ev.call (y := 145) (args := [.ref 14, .int x3]) (rest := []) (r := some (.int (F145 M x3))) rfl (s145 H.1) ?_
    replace H := H.2
    show Ev 2 125 24 [some (.ref 54), some (.ref 14), some (.int x2), some (.int x3), none] [.int (F145 M x3)] _ _
    refine Ev.steps 1 (pc' := if (F145 M x3) = 0 then 75 else 27) (L' := [some (.ref 54), some (.ref 14), some (.int x2), some (.int x3), none]) (st' := []) rfl ?_
    refine Ev_ite (fun hc => ?_) (fun hc => ?_)
    · replace H := H.1 hc
      refine Ev.steps 2 (pc' := 11) (L' := [some (.ref 54), some (.ref 14), some (.int x2), some (.int (x3 + 1)), none]) (st' := []) rfl ?_
      exact Ev.weak [some (.ref 54), some (.ref 14), some (.int x2), some (.int (x3 + 1)), none] (gw_leb_le ⟨rfl, rfl, rfl, rfl, trivial⟩) H
    · replace H := H.2 hc
      refine Ev.steps 3 (pc' := if 256 ≤ x2 then 75 else 34) (L' := [some (.ref 54), some (.ref 14), some (.int x2), some (.int x3), none]) (st' := []) rfl ?_
      refine Ev_ite (fun hc => ?_) (fun hc => ?_)
      · replace H := H.1 hc
        refine Ev.steps 2 (pc' := 11) (L' := [some (.ref 54), some (.ref 14), some (.int x2), some (.int (x3 + 1)), none]) (st' := []) rfl ?_
        exact Ev.weak [some (.ref 54), some (.ref 14), some (.int x2), some (.int (x3 + 1)), none] (gw_leb_le ⟨rfl, rfl, rfl, rfl, trivial⟩) H
      · replace H := H.2 hc
        refine Ev.steps 2 (pc' := 37) (L' := [some (.ref 54), some (.ref 14), some (.int x2), some (.int x3), some (.int 0)]) (st' := []) rfl ?_
        exact Ev.weak [some (.ref 54), some (.ref 14), some (.int x2), some (.int x3), some (.int 0)] (gw_leb_le ⟨rfl, rfl, rfl, rfl, rfl, trivial⟩) H

theorem w125_37 {E : gw_N} {M : Mem} {res : Option Value × gw_H} {x2 : Int32} {x3 : Int32} {x4 : Int32} (H : ((x2 ≤ x4 → Ev 2 125 11 [some (.ref 54), some (.ref 14), some (.int (x2 * 2)), some (.int (x3 + 1)), none] [] (hs E M) res) ∧ (¬ x2 ≤ x4 → (inb x4 256 ∧ (P149 M x3 ∧ (inb (x2 + x4) 256 ∧ Ev 2 125 37 [some (.ref 54), some (.ref 14), some (.int x2), some (.int x3), some (.int (x4 + 1))] [] (hs E (up M 57 (upd (M 57) ((x2 + x4) : Int32).toNatClampNeg (((M 57) (x4 : Int32).toNatClampNeg) + (F149 M x3))))) res)))))) : Ev 2 125 37 [some (.ref 54), some (.ref 14), some (.int x2), some (.int x3), some (.int x4)] [] (hs E M) res := by
  refine Ev.steps 3 (pc' := if x2 ≤ x4 then 71 else 43) (L' := [some (.ref 54), some (.ref 14), some (.int x2), some (.int x3), some (.int x4)]) (st' := []) rfl ?_
  refine Ev_ite (fun hc => ?_) (fun hc => ?_)
  · replace H := H.1 hc
    refine Ev.steps 6 (pc' := 11) (L' := [some (.ref 54), some (.ref 14), some (.int (x2 * 2)), some (.int (x3 + 1)), some (.int x4)]) (st' := []) rfl ?_
    exact Ev.weak [some (.ref 54), some (.ref 14), some (.int (x2 * 2)), some (.int (x3 + 1)), none] (gw_leb_le ⟨rfl, rfl, rfl, rfl, trivial⟩) H
  · replace H := H.2 hc
    refine Ev.steps 8 (pc' := 57) (L' := [some (.ref 54), some (.ref 14), some (.int x2), some (.int x3), some (.int x4)]) (st' := [.int x4, .ref 57, .int (x2 + x4), .ref 57]) rfl ?_
    refine Ev.rd (i := x4) (n := 256) (pc' := 58) (L' := [some (.ref 54), some (.ref 14), some (.int x2), some (.int x3), some (.int x4)]) (st' := [.int ((M 57) (x4 : Int32).toNatClampNeg), .int (x2 + x4), .ref 57]) H.1 rfl ?_
    replace H := H.2
    refine Ev.steps 2 (pc' := 60) (L' := [some (.ref 54), some (.ref 14), some (.int x2), some (.int x3), some (.int x4)]) (st' := [.int x3, .ref 14, .int ((M 57) (x4 : Int32).toNatClampNeg), .int (x2 + x4), .ref 57]) rfl ?_
    refine Ev.call (y := 149) (args := [.ref 14, .int x3]) (rest := [.int ((M 57) (x4 : Int32).toNatClampNeg), .int (x2 + x4), .ref 57]) (r := some (.int (F149 M x3))) rfl (s149 H.1) ?_
    replace H := H.2
    show Ev 2 125 63 [some (.ref 54), some (.ref 14), some (.int x2), some (.int x3), some (.int x4)] [.int (F149 M x3), .int ((M 57) (x4 : Int32).toNatClampNeg), .int (x2 + x4), .ref 57] _ _
    refine Ev.steps 1 (pc' := 64) (L' := [some (.ref 54), some (.ref 14), some (.int x2), some (.int x3), some (.int x4)]) (st' := [.int (((M 57) (x4 : Int32).toNatClampNeg) + (F149 M x3)), .int (x2 + x4), .ref 57]) rfl ?_
    refine Ev.wr (a := 57) (g := (upd (M 57) ((x2 + x4) : Int32).toNatClampNeg (((M 57) (x4 : Int32).toNatClampNeg) + (F149 M x3)))) (i := (x2 + x4)) (n := 256) (pc' := 65) (L' := [some (.ref 54), some (.ref 14), some (.int x2), some (.int x3), some (.int x4)]) (st' := []) (by decide) H.1 rfl ?_
    replace H := H.2
    refine Ev.steps 2 (pc' := 37) (L' := [some (.ref 54), some (.ref 14), some (.int x2), some (.int x3), some (.int (x4 + 1))]) (st' := []) rfl ?_
    exact Ev.weak [some (.ref 54), some (.ref 14), some (.int x2), some (.int x3), some (.int (x4 + 1))] (gw_leb_le ⟨rfl, rfl, rfl, rfl, rfl, trivial⟩) H

-- 127 GlassWires$Rods digestOn (J)J
theorem w127_0 {E : gw_N} {M : Mem} {res : Option Value × gw_H} {x1 : Int64} (H : Ev 2 127 5 [some (.ref 54), none, none, some (.long x1), none, some (.int 0)] [] (hs E M) res) : Ev 2 127 0 [some (.ref 54), some (.long x1), none, none, none, none] [] (hs E M) res := by
  refine Ev.steps 4 (pc' := 5) (L' := [some (.ref 54), some (.long x1), none, some (.long x1), none, some (.int 0)]) (st' := []) rfl ?_
  exact Ev.weak [some (.ref 54), none, none, some (.long x1), none, some (.int 0)] (gw_leb_le ⟨rfl, rfl, rfl, trivial⟩) H

theorem w127_5 {E : gw_N} {M : Mem} {res : Option Value × gw_H} {x3 : Int64} {x5 : Int32} (H : ((((M 54) 4) ≤ x5 → res = (some (.long x3), hs E M)) ∧ (¬ ((M 54) 4) ≤ x5 → (inb x5 8 ∧ (inb x5 8 ∧ Ev 2 127 5 [some (.ref 54), none, none, some (.long (F207 M (F207 M x3 (Int32.toInt64 ((M 55) (x5 : Int32).toNatClampNeg))) (Int32.toInt64 ((M 56) (x5 : Int32).toNatClampNeg)))), none, some (.int (x5 + 1))] [] (hs E M) res))))) : Ev 2 127 5 [some (.ref 54), none, none, some (.long x3), none, some (.int x5)] [] (hs E M) res := by
  refine Ev.steps 4 (pc' := if ((M 54) 4) ≤ x5 then 44 else 14) (L' := [some (.ref 54), none, none, some (.long x3), none, some (.int x5)]) (st' := []) rfl ?_
  refine Ev_ite (fun hc => ?_) (fun hc => ?_)
  · replace H := H.1 hc
    refine Ev.steps 1 (pc' := 45) (L' := [some (.ref 54), none, none, some (.long x3), none, some (.int x5)]) (st' := [.long x3]) rfl ?_
    subst H
    exact Ev.ret rfl
  · replace H := H.2 hc
    refine Ev.steps 4 (pc' := 21) (L' := [some (.ref 54), none, none, some (.long x3), none, some (.int x5)]) (st' := [.int x5, .ref 55, .long x3]) rfl ?_
    refine Ev.rd (i := x5) (n := 8) (pc' := 22) (L' := [some (.ref 54), none, none, some (.long x3), none, some (.int x5)]) (st' := [.int ((M 55) (x5 : Int32).toNatClampNeg), .long x3]) H.1 rfl ?_
    replace H := H.2
    refine Ev.steps 1 (pc' := 23) (L' := [some (.ref 54), none, none, some (.long x3), none, some (.int x5)]) (st' := [.long (Int32.toInt64 ((M 55) (x5 : Int32).toNatClampNeg)), .long x3]) rfl ?_
    refine Ev.call (y := 207) (args := [.long x3, .long (Int32.toInt64 ((M 55) (x5 : Int32).toNatClampNeg))]) (rest := []) (r := some (.long (F207 M x3 (Int32.toInt64 ((M 55) (x5 : Int32).toNatClampNeg))))) rfl (s207) ?_
    show Ev 2 127 26 [some (.ref 54), none, none, some (.long x3), none, some (.int x5)] [.long (F207 M x3 (Int32.toInt64 ((M 55) (x5 : Int32).toNatClampNeg)))] _ _
    refine Ev.steps 3 (pc' := 32) (L' := [some (.ref 54), none, none, some (.long x3), none, some (.int x5)]) (st' := [.int x5, .ref 56, .long (F207 M x3 (Int32.toInt64 ((M 55) (x5 : Int32).toNatClampNeg)))]) rfl ?_
    refine Ev.rd (i := x5) (n := 8) (pc' := 33) (L' := [some (.ref 54), none, none, some (.long x3), none, some (.int x5)]) (st' := [.int ((M 56) (x5 : Int32).toNatClampNeg), .long (F207 M x3 (Int32.toInt64 ((M 55) (x5 : Int32).toNatClampNeg)))]) H.1 rfl ?_
    replace H := H.2
    refine Ev.steps 1 (pc' := 34) (L' := [some (.ref 54), none, none, some (.long x3), none, some (.int x5)]) (st' := [.long (Int32.toInt64 ((M 56) (x5 : Int32).toNatClampNeg)), .long (F207 M x3 (Int32.toInt64 ((M 55) (x5 : Int32).toNatClampNeg)))]) rfl ?_
    refine Ev.call (y := 207) (args := [.long (F207 M x3 (Int32.toInt64 ((M 55) (x5 : Int32).toNatClampNeg))), .long (Int32.toInt64 ((M 56) (x5 : Int32).toNatClampNeg))]) (rest := []) (r := some (.long (F207 M (F207 M x3 (Int32.toInt64 ((M 55) (x5 : Int32).toNatClampNeg))) (Int32.toInt64 ((M 56) (x5 : Int32).toNatClampNeg))))) rfl (s207) ?_
    show Ev 2 127 37 [some (.ref 54), none, none, some (.long x3), none, some (.int x5)] [.long (F207 M (F207 M x3 (Int32.toInt64 ((M 55) (x5 : Int32).toNatClampNeg))) (Int32.toInt64 ((M 56) (x5 : Int32).toNatClampNeg)))] _ _
    refine Ev.steps 3 (pc' := 5) (L' := [some (.ref 54), none, none, some (.long (F207 M (F207 M x3 (Int32.toInt64 ((M 55) (x5 : Int32).toNatClampNeg))) (Int32.toInt64 ((M 56) (x5 : Int32).toNatClampNeg)))), none, some (.int (x5 + 1))]) (st' := []) rfl ?_
    exact Ev.weak [some (.ref 54), none, none, some (.long (F207 M (F207 M x3 (Int32.toInt64 ((M 55) (x5 : Int32).toNatClampNeg))) (Int32.toInt64 ((M 56) (x5 : Int32).toNatClampNeg)))), none, some (.int (x5 + 1))] (gw_leb_le ⟨rfl, rfl, rfl, trivial⟩) H

-- 131 GlassWires$Tension pullOfBack (II)I
theorem w131_0 {E : gw_N} {M : Mem} {res : Option Value × gw_H} {x1 : Int32} {x2 : Int32} (H : (P101 M x1 ∧ res = (some (.int (((F40 M) * x2) * (F101 M x1))), hs E M))) : Ev 2 131 0 [some (.ref 53), some (.int x1), some (.int x2)] [] (hs E M) res := by
  refine Ev.steps 2 (pc' := 4) (L' := [some (.ref 53), some (.int x1), some (.int x2)]) (st' := [.ref 9]) rfl ?_
  refine Ev.call (y := 40) (args := [.ref 9]) (rest := []) (r := some (.int (F40 M))) rfl (s40) ?_
  show Ev 2 131 7 [some (.ref 53), some (.int x1), some (.int x2)] [.int (F40 M)] _ _
  refine Ev.steps 5 (pc' := 14) (L' := [some (.ref 53), some (.int x1), some (.int x2)]) (st' := [.int x1, .ref 40, .int ((F40 M) * x2)]) rfl ?_
  refine Ev.call (y := 101) (args := [.ref 40, .int x1]) (rest := [.int ((F40 M) * x2)]) (r := some (.int (F101 M x1))) rfl (s101 H.1) ?_
  replace H := H.2
  show Ev 2 131 17 [some (.ref 53), some (.int x1), some (.int x2)] [.int (F101 M x1), .int ((F40 M) * x2)] _ _
  refine Ev.steps 1 (pc' := 18) (L' := [some (.ref 53), some (.int x1), some (.int x2)]) (st' := [.int (((F40 M) * x2) * (F101 M x1))]) rfl ?_
  subst H
  exact Ev.ret rfl

def F131 (M : Mem) (x1 : Int32) (x2 : Int32) : Int32 := (((F40 M) * x2) * (F101 M x1))
def P131 (M : Mem) (x1 : Int32) (x2 : Int32) : Prop := (P101 M x1)
theorem s131 {E : gw_N} {M : Mem} {x1 : Int32} {x2 : Int32} (H : P131 M x1 x2) : Rn 131 [.ref 53, .int x1, .int x2] (hs E M) (some (.int (F131 M x1 x2))) (hs E M) :=
  w131_0 (⟨H, rfl⟩)
-- 133 GlassWires$Tension bowBetween (II)I
theorem w133_0 {E : gw_N} {M : Mem} {res : Option Value × gw_H} {x1 : Int32} {x2 : Int32} (H : (((F40 M) ≤ 0 → res = (some (.int 0), hs E M)) ∧ (¬ (F40 M) ≤ 0 → (¬ (F40 M) = 0 ∧ res = (some (.int ((x1 - x2) / (F40 M))), hs E M))))) : Ev 2 133 0 [some (.ref 53), some (.int x1), some (.int x2), none] [] (hs E M) res := by
  refine Ev.steps 2 (pc' := 4) (L' := [some (.ref 53), some (.int x1), some (.int x2), none]) (st' := [.ref 9]) rfl ?_
  refine Ev.call (y := 40) (args := [.ref 9]) (rest := []) (r := some (.int (F40 M))) rfl (s40) ?_
  show Ev 2 133 7 [some (.ref 53), some (.int x1), some (.int x2), none] [.int (F40 M)] _ _
  refine Ev.steps 3 (pc' := if (F40 M) ≤ 0 then 20 else 12) (L' := [some (.ref 53), some (.int x1), some (.int x2), some (.int (F40 M))]) (st' := []) rfl ?_
  refine Ev_ite (fun hc => ?_) (fun hc => ?_)
  · replace H := H.1 hc
    refine Ev.steps 1 (pc' := 21) (L' := [some (.ref 53), some (.int x1), some (.int x2), some (.int (F40 M))]) (st' := [.int 0]) rfl ?_
    subst H
    exact Ev.ret rfl
  · replace H := H.2 hc
    refine Ev.steps 4 (pc' := 16) (L' := [some (.ref 53), some (.int x1), some (.int x2), some (.int (F40 M))]) (st' := [.int (F40 M), .int (x1 - x2)]) rfl ?_
    refine Ev.dv (y := (F40 M)) (pc' := 17) (L' := [some (.ref 53), some (.int x1), some (.int x2), some (.int (F40 M))]) (st' := [.int ((x1 - x2) / (F40 M))]) H.1 rfl ?_
    replace H := H.2
    refine Ev.steps 1 (pc' := 21) (L' := [some (.ref 53), some (.int x1), some (.int x2), some (.int (F40 M))]) (st' := [.int ((x1 - x2) / (F40 M))]) rfl ?_
    subst H
    exact Ev.ret rfl

def F133 (M : Mem) (x1 : Int32) (x2 : Int32) : Int32 := (if (F40 M) ≤ 0 then 0 else ((x1 - x2) / (F40 M)))
def P133 (M : Mem) (x1 : Int32) (x2 : Int32) : Prop := (((F40 M) ≤ 0 → True) ∧ (¬ (F40 M) ≤ 0 → (¬ (F40 M) = 0)))
theorem s133 {E : gw_N} {M : Mem} {x1 : Int32} {x2 : Int32} (H : P133 M x1 x2) : Rn 133 [.ref 53, .int x1, .int x2] (hs E M) (some (.int (F133 M x1 x2))) (hs E M) :=
  w133_0 (⟨fun h0 => gw_reteq (if_pos h0), fun h0 => ⟨(H.2 h0), gw_reteq (if_neg h0)⟩⟩)
-- 140 GlassWires$Tension digestOn (J)J
theorem w140_0 {E : gw_N} {M : Mem} {res : Option Value × gw_H} {x1 : Int64} (H : res = (some (.long (F207 M (F207 M x1 (Int32.toInt64 ((M 53) 3))) (Int32.toInt64 ((M 53) 4)))), hs E M)) : Ev 2 140 0 [some (.ref 53), some (.long x1), none] [] (hs E M) res := by
  refine Ev.steps 4 (pc' := 6) (L' := [some (.ref 53), some (.long x1), none]) (st' := [.long (Int32.toInt64 ((M 53) 3)), .long x1]) rfl ?_
  refine Ev.call (y := 207) (args := [.long x1, .long (Int32.toInt64 ((M 53) 3))]) (rest := []) (r := some (.long (F207 M x1 (Int32.toInt64 ((M 53) 3))))) rfl (s207) ?_
  show Ev 2 140 9 [some (.ref 53), some (.long x1), none] [.long (F207 M x1 (Int32.toInt64 ((M 53) 3)))] _ _
  refine Ev.steps 3 (pc' := 14) (L' := [some (.ref 53), some (.long x1), none]) (st' := [.long (Int32.toInt64 ((M 53) 4)), .long (F207 M x1 (Int32.toInt64 ((M 53) 3)))]) rfl ?_
  refine Ev.call (y := 207) (args := [.long (F207 M x1 (Int32.toInt64 ((M 53) 3))), .long (Int32.toInt64 ((M 53) 4))]) (rest := []) (r := some (.long (F207 M (F207 M x1 (Int32.toInt64 ((M 53) 3))) (Int32.toInt64 ((M 53) 4))))) rfl (s207) ?_
  show Ev 2 140 17 [some (.ref 53), some (.long x1), none] [.long (F207 M (F207 M x1 (Int32.toInt64 ((M 53) 3))) (Int32.toInt64 ((M 53) 4)))] _ _
  subst H
  exact Ev.ret rfl

def F140 (M : Mem) (x1 : Int64) : Int64 := (F207 M (F207 M x1 (Int32.toInt64 ((M 53) 3))) (Int32.toInt64 ((M 53) 4)))
theorem s140 {E : gw_N} {M : Mem} {x1 : Int64} : Rn 140 [.ref 53, .long x1] (hs E M) (some (.long (F140 M x1))) (hs E M) :=
  w140_0 (rfl)
-- 155 GlassWires$Wires laidOnes ()I
theorem w155_0 {E : gw_N} {M : Mem} {res : Option Value × gw_H}  (H : Ev 2 155 4 [some (.ref 14), some (.int 0), some (.int 0)] [] (hs E M) res) : Ev 2 155 0 [some (.ref 14), none, none] [] (hs E M) res := by
  refine Ev.steps 4 (pc' := 4) (L' := [some (.ref 14), some (.int 0), some (.int 0)]) (st' := []) rfl ?_
  exact Ev.weak [some (.ref 14), some (.int 0), some (.int 0)] (gw_leb_le ⟨rfl, rfl, rfl, trivial⟩) H

theorem w155_4 {E : gw_N} {M : Mem} {res : Option Value × gw_H} {x1 : Int32} {x2 : Int32} (H : ((((M 14) 7) ≤ x2 → res = (some (.int x1), hs E M)) ∧ (¬ ((M 14) 7) ≤ x2 → (inb x2 30 ∧ Ev 2 155 4 [some (.ref 14), some (.int (x1 + (F206 M ((M 15) (x2 : Int32).toNatClampNeg)))), some (.int (x2 + 1))] [] (hs E M) res)))) : Ev 2 155 4 [some (.ref 14), some (.int x1), some (.int x2)] [] (hs E M) res := by
  refine Ev.steps 4 (pc' := if ((M 14) 7) ≤ x2 then 30 else 12) (L' := [some (.ref 14), some (.int x1), some (.int x2)]) (st' := []) rfl ?_
  refine Ev_ite (fun hc => ?_) (fun hc => ?_)
  · replace H := H.1 hc
    refine Ev.steps 1 (pc' := 31) (L' := [some (.ref 14), some (.int x1), some (.int x2)]) (st' := [.int x1]) rfl ?_
    subst H
    exact Ev.ret rfl
  · replace H := H.2 hc
    refine Ev.steps 4 (pc' := 18) (L' := [some (.ref 14), some (.int x1), some (.int x2)]) (st' := [.int x2, .ref 15, .int x1]) rfl ?_
    refine Ev.rd (i := x2) (n := 30) (pc' := 19) (L' := [some (.ref 14), some (.int x1), some (.int x2)]) (st' := [.int ((M 15) (x2 : Int32).toNatClampNeg), .int x1]) H.1 rfl ?_
    replace H := H.2
    refine Ev.call (y := 206) (args := [.int ((M 15) (x2 : Int32).toNatClampNeg)]) (rest := [.int x1]) (r := some (.int (F206 M ((M 15) (x2 : Int32).toNatClampNeg)))) rfl (s206) ?_
    show Ev 2 155 22 [some (.ref 14), some (.int x1), some (.int x2)] [.int (F206 M ((M 15) (x2 : Int32).toNatClampNeg)), .int x1] _ _
    refine Ev.steps 4 (pc' := 4) (L' := [some (.ref 14), some (.int (x1 + (F206 M ((M 15) (x2 : Int32).toNatClampNeg)))), some (.int (x2 + 1))]) (st' := []) rfl ?_
    exact Ev.weak [some (.ref 14), some (.int (x1 + (F206 M ((M 15) (x2 : Int32).toNatClampNeg)))), some (.int (x2 + 1))] (gw_leb_le ⟨rfl, rfl, rfl, trivial⟩) H

-- 158 GlassWires$Wires wentAlong (III)Z
theorem w158_0 {E : gw_N} {M : Mem} {res : Option Value × gw_H} {x1 : Int32} {x2 : Int32} {x3 : Int32} (H : Ev 2 158 3 [some (.ref 14), some (.int x1), some (.int x2), some (.int x3), some (.int 0)] [] (hs E M) res) : Ev 2 158 0 [some (.ref 14), some (.int x1), some (.int x2), some (.int x3), none] [] (hs E M) res := by
  refine Ev.steps 2 (pc' := 3) (L' := [some (.ref 14), some (.int x1), some (.int x2), some (.int x3), some (.int 0)]) (st' := []) rfl ?_
  exact Ev.weak [some (.ref 14), some (.int x1), some (.int x2), some (.int x3), some (.int 0)] (gw_leb_le ⟨rfl, rfl, rfl, rfl, rfl, trivial⟩) H

theorem w158_3 {E : gw_N} {M : Mem} {res : Option Value × gw_H} {x1 : Int32} {x2 : Int32} {x3 : Int32} {x4 : Int32} (H : ((x2 ≤ x4 → res = (some (.int 0), hs E M)) ∧ (¬ x2 ≤ x4 → (P154 M x1 x4 ∧ (((F154 M x1 x4) = x3 → res = (some (.int 1), hs E M)) ∧ (¬ (F154 M x1 x4) = x3 → Ev 2 158 3 [some (.ref 14), some (.int x1), some (.int x2), some (.int x3), some (.int (x4 + 1))] [] (hs E M) res)))))) : Ev 2 158 3 [some (.ref 14), some (.int x1), some (.int x2), some (.int x3), some (.int x4)] [] (hs E M) res := by
  refine Ev.steps 3 (pc' := if x2 ≤ x4 then 28 else 9) (L' := [some (.ref 14), some (.int x1), some (.int x2), some (.int x3), some (.int x4)]) (st' := []) rfl ?_
  refine Ev_ite (fun hc => ?_) (fun hc => ?_)
  · replace H := H.1 hc
    refine Ev.steps 1 (pc' := 29) (L' := [some (.ref 14), some (.int x1), some (.int x2), some (.int x3), some (.int x4)]) (st' := [.int 0]) rfl ?_
    subst H
    exact Ev.ret rfl
  · replace H := H.2 hc
    refine Ev.steps 3 (pc' := 13) (L' := [some (.ref 14), some (.int x1), some (.int x2), some (.int x3), some (.int x4)]) (st' := [.int x4, .int x1, .ref 14]) rfl ?_
    refine Ev.call (y := 154) (args := [.ref 14, .int x1, .int x4]) (rest := []) (r := some (.int (F154 M x1 x4))) rfl (s154 H.1) ?_
    replace H := H.2
    show Ev 2 158 16 [some (.ref 14), some (.int x1), some (.int x2), some (.int x3), some (.int x4)] [.int (F154 M x1 x4)] _ _
    refine Ev.steps 2 (pc' := if (F154 M x1 x4) = x3 then 20 else 22) (L' := [some (.ref 14), some (.int x1), some (.int x2), some (.int x3), some (.int x4)]) (st' := []) rfl ?_
    refine Ev_ite (fun hc => ?_) (fun hc => ?_)
    · replace H := H.1 hc
      refine Ev.steps 1 (pc' := 21) (L' := [some (.ref 14), some (.int x1), some (.int x2), some (.int x3), some (.int x4)]) (st' := [.int 1]) rfl ?_
      subst H
      exact Ev.ret rfl
    · replace H := H.2 hc
      refine Ev.steps 2 (pc' := 3) (L' := [some (.ref 14), some (.int x1), some (.int x2), some (.int x3), some (.int (x4 + 1))]) (st' := []) rfl ?_
      exact Ev.weak [some (.ref 14), some (.int x1), some (.int x2), some (.int x3), some (.int (x4 + 1))] (gw_leb_le ⟨rfl, rfl, rfl, rfl, rfl, trivial⟩) H

-- 159 GlassWires$Wires digestOn (J)J
theorem w159_0 {E : gw_N} {M : Mem} {res : Option Value × gw_H} {x1 : Int64} (H : Ev 2 159 5 [some (.ref 14), none, none, some (.long x1), none, some (.int 0), none] [] (hs E M) res) : Ev 2 159 0 [some (.ref 14), some (.long x1), none, none, none, none, none] [] (hs E M) res := by
  refine Ev.steps 4 (pc' := 5) (L' := [some (.ref 14), some (.long x1), none, some (.long x1), none, some (.int 0), none]) (st' := []) rfl ?_
  exact Ev.weak [some (.ref 14), none, none, some (.long x1), none, some (.int 0), none] (gw_leb_le ⟨rfl, rfl, rfl, trivial⟩) H

theorem w159_5 {E : gw_N} {M : Mem} {res : Option Value × gw_H} {x3 : Int64} {x5 : Int32} (H : ((((M 14) 7) ≤ x5 → res = (some (.long x3), hs E M)) ∧ (¬ ((M 14) 7) ≤ x5 → (inb x5 30 ∧ (inb x5 30 ∧ Ev 2 159 47 [some (.ref 14), none, none, some (.long (F207 M (F207 M x3 (Int32.toInt64 (F206 M ((M 15) (x5 : Int32).toNatClampNeg)))) (Int32.toInt64 (F206 M ((M 16) (x5 : Int32).toNatClampNeg))))), none, some (.int x5), some (.int 0)] [] (hs E M) res))))) : Ev 2 159 5 [some (.ref 14), none, none, some (.long x3), none, some (.int x5), none] [] (hs E M) res := by
  refine Ev.steps 4 (pc' := if ((M 14) 7) ≤ x5 then 85 else 14) (L' := [some (.ref 14), none, none, some (.long x3), none, some (.int x5), none]) (st' := []) rfl ?_
  refine Ev_ite (fun hc => ?_) (fun hc => ?_)
  · replace H := H.1 hc
    refine Ev.steps 1 (pc' := 86) (L' := [some (.ref 14), none, none, some (.long x3), none, some (.int x5), none]) (st' := [.long x3]) rfl ?_
    subst H
    exact Ev.ret rfl
  · replace H := H.2 hc
    refine Ev.steps 4 (pc' := 21) (L' := [some (.ref 14), none, none, some (.long x3), none, some (.int x5), none]) (st' := [.int x5, .ref 15, .long x3]) rfl ?_
    refine Ev.rd (i := x5) (n := 30) (pc' := 22) (L' := [some (.ref 14), none, none, some (.long x3), none, some (.int x5), none]) (st' := [.int ((M 15) (x5 : Int32).toNatClampNeg), .long x3]) H.1 rfl ?_
    replace H := H.2
    refine Ev.call (y := 206) (args := [.int ((M 15) (x5 : Int32).toNatClampNeg)]) (rest := [.long x3]) (r := some (.int (F206 M ((M 15) (x5 : Int32).toNatClampNeg)))) rfl (s206) ?_
    show Ev 2 159 25 [some (.ref 14), none, none, some (.long x3), none, some (.int x5), none] [.int (F206 M ((M 15) (x5 : Int32).toNatClampNeg)), .long x3] _ _
    refine Ev.steps 1 (pc' := 26) (L' := [some (.ref 14), none, none, some (.long x3), none, some (.int x5), none]) (st' := [.long (Int32.toInt64 (F206 M ((M 15) (x5 : Int32).toNatClampNeg))), .long x3]) rfl ?_
    refine Ev.call (y := 207) (args := [.long x3, .long (Int32.toInt64 (F206 M ((M 15) (x5 : Int32).toNatClampNeg)))]) (rest := []) (r := some (.long (F207 M x3 (Int32.toInt64 (F206 M ((M 15) (x5 : Int32).toNatClampNeg)))))) rfl (s207) ?_
    show Ev 2 159 29 [some (.ref 14), none, none, some (.long x3), none, some (.int x5), none] [.long (F207 M x3 (Int32.toInt64 (F206 M ((M 15) (x5 : Int32).toNatClampNeg))))] _ _
    refine Ev.steps 3 (pc' := 35) (L' := [some (.ref 14), none, none, some (.long x3), none, some (.int x5), none]) (st' := [.int x5, .ref 16, .long (F207 M x3 (Int32.toInt64 (F206 M ((M 15) (x5 : Int32).toNatClampNeg))))]) rfl ?_
    refine Ev.rd (i := x5) (n := 30) (pc' := 36) (L' := [some (.ref 14), none, none, some (.long x3), none, some (.int x5), none]) (st' := [.int ((M 16) (x5 : Int32).toNatClampNeg), .long (F207 M x3 (Int32.toInt64 (F206 M ((M 15) (x5 : Int32).toNatClampNeg))))]) H.1 rfl ?_
    replace H := H.2
    refine Ev.call (y := 206) (args := [.int ((M 16) (x5 : Int32).toNatClampNeg)]) (rest := [.long (F207 M x3 (Int32.toInt64 (F206 M ((M 15) (x5 : Int32).toNatClampNeg))))]) (r := some (.int (F206 M ((M 16) (x5 : Int32).toNatClampNeg)))) rfl (s206) ?_
    show Ev 2 159 39 [some (.ref 14), none, none, some (.long x3), none, some (.int x5), none] [.int (F206 M ((M 16) (x5 : Int32).toNatClampNeg)), .long (F207 M x3 (Int32.toInt64 (F206 M ((M 15) (x5 : Int32).toNatClampNeg))))] _ _
    refine Ev.steps 1 (pc' := 40) (L' := [some (.ref 14), none, none, some (.long x3), none, some (.int x5), none]) (st' := [.long (Int32.toInt64 (F206 M ((M 16) (x5 : Int32).toNatClampNeg))), .long (F207 M x3 (Int32.toInt64 (F206 M ((M 15) (x5 : Int32).toNatClampNeg))))]) rfl ?_
    refine Ev.call (y := 207) (args := [.long (F207 M x3 (Int32.toInt64 (F206 M ((M 15) (x5 : Int32).toNatClampNeg)))), .long (Int32.toInt64 (F206 M ((M 16) (x5 : Int32).toNatClampNeg)))]) (rest := []) (r := some (.long (F207 M (F207 M x3 (Int32.toInt64 (F206 M ((M 15) (x5 : Int32).toNatClampNeg)))) (Int32.toInt64 (F206 M ((M 16) (x5 : Int32).toNatClampNeg)))))) rfl (s207) ?_
    show Ev 2 159 43 [some (.ref 14), none, none, some (.long x3), none, some (.int x5), none] [.long (F207 M (F207 M x3 (Int32.toInt64 (F206 M ((M 15) (x5 : Int32).toNatClampNeg)))) (Int32.toInt64 (F206 M ((M 16) (x5 : Int32).toNatClampNeg))))] _ _
    refine Ev.steps 3 (pc' := 47) (L' := [some (.ref 14), none, none, some (.long (F207 M (F207 M x3 (Int32.toInt64 (F206 M ((M 15) (x5 : Int32).toNatClampNeg)))) (Int32.toInt64 (F206 M ((M 16) (x5 : Int32).toNatClampNeg))))), none, some (.int x5), some (.int 0)]) (st' := []) rfl ?_
    exact Ev.weak [some (.ref 14), none, none, some (.long (F207 M (F207 M x3 (Int32.toInt64 (F206 M ((M 15) (x5 : Int32).toNatClampNeg)))) (Int32.toInt64 (F206 M ((M 16) (x5 : Int32).toNatClampNeg))))), none, some (.int x5), some (.int 0)] (gw_leb_le ⟨rfl, rfl, rfl, rfl, trivial⟩) H

theorem w159_47 {E : gw_N} {M : Mem} {res : Option Value × gw_H} {x3 : Int64} {x5 : Int32} {x6 : Int32} (H : (inb x5 30 ∧ ((((M 17) (x5 : Int32).toNatClampNeg) < x6 → Ev 2 159 5 [some (.ref 14), none, none, some (.long x3), none, some (.int (x5 + 1)), none] [] (hs E M) res) ∧ (¬ ((M 17) (x5 : Int32).toNatClampNeg) < x6 → (P153 M x5 x6 ∧ Ev 2 159 47 [some (.ref 14), none, none, some (.long (F207 M x3 (Int32.toInt64 (F153 M x5 x6)))), none, some (.int x5), some (.int (x6 + 1))] [] (hs E M) res))))) : Ev 2 159 47 [some (.ref 14), none, none, some (.long x3), none, some (.int x5), some (.int x6)] [] (hs E M) res := by
  refine Ev.steps 4 (pc' := 55) (L' := [some (.ref 14), none, none, some (.long x3), none, some (.int x5), some (.int x6)]) (st' := [.int x5, .ref 17, .int x6]) rfl ?_
  refine Ev.rd (i := x5) (n := 30) (pc' := 56) (L' := [some (.ref 14), none, none, some (.long x3), none, some (.int x5), some (.int x6)]) (st' := [.int ((M 17) (x5 : Int32).toNatClampNeg), .int x6]) H.1 rfl ?_
  replace H := H.2
  refine Ev.steps 1 (pc' := if ((M 17) (x5 : Int32).toNatClampNeg) < x6 then 79 else 59) (L' := [some (.ref 14), none, none, some (.long x3), none, some (.int x5), some (.int x6)]) (st' := []) rfl ?_
  refine Ev_ite (fun hc => ?_) (fun hc => ?_)
  · replace H := H.1 hc
    refine Ev.steps 2 (pc' := 5) (L' := [some (.ref 14), none, none, some (.long x3), none, some (.int (x5 + 1)), some (.int x6)]) (st' := []) rfl ?_
    exact Ev.weak [some (.ref 14), none, none, some (.long x3), none, some (.int (x5 + 1)), none] (gw_leb_le ⟨rfl, rfl, rfl, trivial⟩) H
  · replace H := H.2 hc
    refine Ev.steps 4 (pc' := 65) (L' := [some (.ref 14), none, none, some (.long x3), none, some (.int x5), some (.int x6)]) (st' := [.int x6, .int x5, .ref 14, .long x3]) rfl ?_
    refine Ev.call (y := 153) (args := [.ref 14, .int x5, .int x6]) (rest := [.long x3]) (r := some (.int (F153 M x5 x6))) rfl (s153 H.1) ?_
    replace H := H.2
    show Ev 2 159 68 [some (.ref 14), none, none, some (.long x3), none, some (.int x5), some (.int x6)] [.int (F153 M x5 x6), .long x3] _ _
    refine Ev.steps 1 (pc' := 69) (L' := [some (.ref 14), none, none, some (.long x3), none, some (.int x5), some (.int x6)]) (st' := [.long (Int32.toInt64 (F153 M x5 x6)), .long x3]) rfl ?_
    refine Ev.call (y := 207) (args := [.long x3, .long (Int32.toInt64 (F153 M x5 x6))]) (rest := []) (r := some (.long (F207 M x3 (Int32.toInt64 (F153 M x5 x6))))) rfl (s207) ?_
    show Ev 2 159 72 [some (.ref 14), none, none, some (.long x3), none, some (.int x5), some (.int x6)] [.long (F207 M x3 (Int32.toInt64 (F153 M x5 x6)))] _ _
    refine Ev.steps 3 (pc' := 47) (L' := [some (.ref 14), none, none, some (.long (F207 M x3 (Int32.toInt64 (F153 M x5 x6)))), none, some (.int x5), some (.int (x6 + 1))]) (st' := []) rfl ?_
    exact Ev.weak [some (.ref 14), none, none, some (.long (F207 M x3 (Int32.toInt64 (F153 M x5 x6)))), none, some (.int x5), some (.int (x6 + 1))] (gw_leb_le ⟨rfl, rfl, rfl, rfl, trivial⟩) H

-- 163 GlassWires blank ()I
theorem w163_0 {E : gw_N} {M : Mem} {res : Option Value × gw_H}  (H : (∃ (r1 : Int32) (M1 : Mem), Rn 79 [.ref 12] (hs E M) (some (.int r1)) (hs E M1) ∧ res = (some (.int r1), hs E M1))) : Ev 2 163 0 [some (.ref 8)] [] (hs E M) res := by
  refine Ev.steps 2 (pc' := 4) (L' := [some (.ref 8)]) (st' := [.ref 12]) rfl ?_
  obtain ⟨r1, M1, hr1, H⟩ := H
  refine Ev.call (y := 79) (args := [.ref 12]) (rest := []) (r := (some (.int r1))) rfl hr1 ?_
  show Ev 2 163 7 [some (.ref 8)] [.int r1] _ _
  subst H
  exact Ev.ret rfl

-- 169 GlassWires point (II)I
theorem w169_0 {E : gw_N} {M : Mem} {res : Option Value × gw_H} {x1 : Int32} {x2 : Int32} (H : (((F144 M x1) = 0 → res = (some (.int (-101)), hs E M)) ∧ (¬ (F144 M x1) = 0 → ((x2 < 0 → res = (some (.int (-1)), hs E M)) ∧ (¬ x2 < 0 → (P149 M x1 ∧ (((F149 M x1) < x2 → res = (some (.int (-1)), hs E M)) ∧ (¬ (F149 M x1) < x2 → (P153 M x1 x2 ∧ res = (some (.int (F153 M x1 x2)), hs E M)))))))))) : Ev 2 169 0 [some (.ref 8), some (.int x1), some (.int x2)] [] (hs E M) res := by
  refine Ev.steps 3 (pc' := 5) (L' := [some (.ref 8), some (.int x1), some (.int x2)]) (st' := [.int x1, .ref 14]) rfl ?_
  refine Ev.call (y := 144) (args := [.ref 14, .int x1]) (rest := []) (r := some (.int (F144 M x1))) rfl (s144) ?_
  show Ev 2 169 8 [some (.ref 8), some (.int x1), some (.int x2)] [.int (F144 M x1)] _ _
  refine Ev.steps 1 (pc' := if (F144 M x1) = 0 then 11 else 14) (L' := [some (.ref 8), some (.int x1), some (.int x2)]) (st' := []) rfl ?_
  refine Ev_ite (fun hc => ?_) (fun hc => ?_)
  · replace H := H.1 hc
    refine Ev.steps 1 (pc' := 13) (L' := [some (.ref 8), some (.int x1), some (.int x2)]) (st' := [.int (-101)]) rfl ?_
    subst H
    exact Ev.ret rfl
  · replace H := H.2 hc
    refine Ev.steps 2 (pc' := if x2 < 0 then 42 else 18) (L' := [some (.ref 8), some (.int x1), some (.int x2)]) (st' := []) rfl ?_
    refine Ev_ite (fun hc => ?_) (fun hc => ?_)
    · replace H := H.1 hc
      refine Ev.steps 1 (pc' := 43) (L' := [some (.ref 8), some (.int x1), some (.int x2)]) (st' := [.int (-1)]) rfl ?_
      subst H
      exact Ev.ret rfl
    · replace H := H.2 hc
      refine Ev.steps 4 (pc' := 24) (L' := [some (.ref 8), some (.int x1), some (.int x2)]) (st' := [.int x1, .ref 14, .int x2]) rfl ?_
      refine Ev.call (y := 149) (args := [.ref 14, .int x1]) (rest := [.int x2]) (r := some (.int (F149 M x1))) rfl (s149 H.1) ?_
      replace H := H.2
      show Ev 2 169 27 [some (.ref 8), some (.int x1), some (.int x2)] [.int (F149 M x1), .int x2] _ _
      refine Ev.steps 1 (pc' := if (F149 M x1) < x2 then 42 else 30) (L' := [some (.ref 8), some (.int x1), some (.int x2)]) (st' := []) rfl ?_
      refine Ev_ite (fun hc => ?_) (fun hc => ?_)
      · replace H := H.1 hc
        refine Ev.steps 1 (pc' := 43) (L' := [some (.ref 8), some (.int x1), some (.int x2)]) (st' := [.int (-1)]) rfl ?_
        subst H
        exact Ev.ret rfl
      · replace H := H.2 hc
        refine Ev.steps 4 (pc' := 36) (L' := [some (.ref 8), some (.int x1), some (.int x2)]) (st' := [.int x2, .int x1, .ref 14]) rfl ?_
        refine Ev.call (y := 153) (args := [.ref 14, .int x1, .int x2]) (rest := []) (r := some (.int (F153 M x1 x2))) rfl (s153 H.1) ?_
        replace H := H.2
        show Ev 2 169 39 [some (.ref 8), some (.int x1), some (.int x2)] [.int (F153 M x1 x2)] _ _
        refine Ev.steps 1 (pc' := 43) (L' := [some (.ref 8), some (.int x1), some (.int x2)]) (st' := [.int (F153 M x1 x2)]) rfl ?_
        subst H
        exact Ev.ret rfl

def F169 (M : Mem) (x1 : Int32) (x2 : Int32) : Int32 := (if (F144 M x1) = 0 then (-101) else (if x2 < 0 then (-1) else (if (F149 M x1) < x2 then (-1) else (F153 M x1 x2))))
def P169 (M : Mem) (x1 : Int32) (x2 : Int32) : Prop := (((F144 M x1) = 0 → True) ∧ (¬ (F144 M x1) = 0 → ((x2 < 0 → True) ∧ (¬ x2 < 0 → (P149 M x1 ∧ (((F149 M x1) < x2 → True) ∧ (¬ (F149 M x1) < x2 → (P153 M x1 x2))))))))
theorem s169 {E : gw_N} {M : Mem} {x1 : Int32} {x2 : Int32} (H : P169 M x1 x2) : Rn 169 [.ref 8, .int x1, .int x2] (hs E M) (some (.int (F169 M x1 x2))) (hs E M) :=
  w169_0 (⟨fun h0 => gw_reteq (if_pos h0), fun h0 => ⟨fun h1 => gw_reteq ((if_neg h0).trans (if_pos h1)), fun h1 => ⟨((H.2 h0).2 h1).1, ⟨fun h2 => gw_reteq (((if_neg h0).trans (if_neg h1)).trans (if_pos h2)), fun h2 => ⟨(((H.2 h0).2 h1).2.2 h2), gw_reteq (((if_neg h0).trans (if_neg h1)).trans (if_neg h2))⟩⟩⟩⟩⟩)
-- 173 GlassWires cell (II)I
theorem w173_0 {E : gw_N} {M : Mem} {res : Option Value × gw_H} {x1 : Int32} {x2 : Int32} (H : (((F43 M x1 x2) = 0 → res = (some (.int (-101)), hs E M)) ∧ (¬ (F43 M x1 x2) = 0 → (P4 M (F45 M x1 x2) ∧ res = (some (.int (F4 M (F45 M x1 x2))), hs E M))))) : Ev 2 173 0 [some (.ref 8), some (.int x1), some (.int x2)] [] (hs E M) res := by
  refine Ev.steps 4 (pc' := 6) (L' := [some (.ref 8), some (.int x1), some (.int x2)]) (st' := [.int x2, .int x1, .ref 9]) rfl ?_
  refine Ev.call (y := 43) (args := [.ref 9, .int x1, .int x2]) (rest := []) (r := some (.int (F43 M x1 x2))) rfl (s43) ?_
  show Ev 2 173 9 [some (.ref 8), some (.int x1), some (.int x2)] [.int (F43 M x1 x2)] _ _
  refine Ev.steps 1 (pc' := if (F43 M x1 x2) = 0 then 31 else 12) (L' := [some (.ref 8), some (.int x1), some (.int x2)]) (st' := []) rfl ?_
  refine Ev_ite (fun hc => ?_) (fun hc => ?_)
  · replace H := H.1 hc
    refine Ev.steps 1 (pc' := 33) (L' := [some (.ref 8), some (.int x1), some (.int x2)]) (st' := [.int (-101)]) rfl ?_
    subst H
    exact Ev.ret rfl
  · replace H := H.2 hc
    refine Ev.steps 6 (pc' := 22) (L' := [some (.ref 8), some (.int x1), some (.int x2)]) (st' := [.int x2, .int x1, .ref 9, .ref 32]) rfl ?_
    refine Ev.call (y := 45) (args := [.ref 9, .int x1, .int x2]) (rest := [.ref 32]) (r := some (.int (F45 M x1 x2))) rfl (s45) ?_
    show Ev 2 173 25 [some (.ref 8), some (.int x1), some (.int x2)] [.int (F45 M x1 x2), .ref 32] _ _
    refine Ev.call (y := 4) (args := [.ref 32, .int (F45 M x1 x2)]) (rest := []) (r := some (.int (F4 M (F45 M x1 x2)))) rfl (s4 H.1) ?_
    replace H := H.2
    show Ev 2 173 28 [some (.ref 8), some (.int x1), some (.int x2)] [.int (F4 M (F45 M x1 x2))] _ _
    refine Ev.steps 1 (pc' := 33) (L' := [some (.ref 8), some (.int x1), some (.int x2)]) (st' := [.int (F4 M (F45 M x1 x2))]) rfl ?_
    subst H
    exact Ev.ret rfl

def F173 (M : Mem) (x1 : Int32) (x2 : Int32) : Int32 := (if (F43 M x1 x2) = 0 then (-101) else (F4 M (F45 M x1 x2)))
def P173 (M : Mem) (x1 : Int32) (x2 : Int32) : Prop := (((F43 M x1 x2) = 0 → True) ∧ (¬ (F43 M x1 x2) = 0 → (P4 M (F45 M x1 x2))))
theorem s173 {E : gw_N} {M : Mem} {x1 : Int32} {x2 : Int32} (H : P173 M x1 x2) : Rn 173 [.ref 8, .int x1, .int x2] (hs E M) (some (.int (F173 M x1 x2))) (hs E M) :=
  w173_0 (⟨fun h0 => gw_reteq (if_pos h0), fun h0 => ⟨(H.2 h0), gw_reteq (if_neg h0)⟩⟩)
-- 174 GlassWires size (I)I
theorem w174_0 {E : gw_N} {M : Mem} {res : Option Value × gw_H} {x1 : Int32} (H : (P5 M x1 ∧ (((F5 M x1) = 0 → res = (some (.int (-101)), hs E M)) ∧ (¬ (F5 M x1) = 0 → (P6 M x1 ∧ res = (some (.int (F6 M x1)), hs E M)))))) : Ev 2 174 0 [some (.ref 8), some (.int x1)] [] (hs E M) res := by
  refine Ev.steps 3 (pc' := 5) (L' := [some (.ref 8), some (.int x1)]) (st' := [.int x1, .ref 32]) rfl ?_
  refine Ev.call (y := 5) (args := [.ref 32, .int x1]) (rest := []) (r := some (.int (F5 M x1))) rfl (s5 H.1) ?_
  replace H := H.2
  show Ev 2 174 8 [some (.ref 8), some (.int x1)] [.int (F5 M x1)] _ _
  refine Ev.steps 1 (pc' := if (F5 M x1) = 0 then 22 else 11) (L' := [some (.ref 8), some (.int x1)]) (st' := []) rfl ?_
  refine Ev_ite (fun hc => ?_) (fun hc => ?_)
  · replace H := H.1 hc
    refine Ev.steps 1 (pc' := 24) (L' := [some (.ref 8), some (.int x1)]) (st' := [.int (-101)]) rfl ?_
    subst H
    exact Ev.ret rfl
  · replace H := H.2 hc
    refine Ev.steps 3 (pc' := 16) (L' := [some (.ref 8), some (.int x1)]) (st' := [.int x1, .ref 32]) rfl ?_
    refine Ev.call (y := 6) (args := [.ref 32, .int x1]) (rest := []) (r := some (.int (F6 M x1))) rfl (s6 H.1) ?_
    replace H := H.2
    show Ev 2 174 19 [some (.ref 8), some (.int x1)] [.int (F6 M x1)] _ _
    refine Ev.steps 1 (pc' := 24) (L' := [some (.ref 8), some (.int x1)]) (st' := [.int (F6 M x1)]) rfl ?_
    subst H
    exact Ev.ret rfl

def F174 (M : Mem) (x1 : Int32) : Int32 := (if (F5 M x1) = 0 then (-101) else (F6 M x1))
def P174 (M : Mem) (x1 : Int32) : Prop := (P5 M x1 ∧ (((F5 M x1) = 0 → True) ∧ (¬ (F5 M x1) = 0 → (P6 M x1))))
theorem s174 {E : gw_N} {M : Mem} {x1 : Int32} (H : P174 M x1) : Rn 174 [.ref 8, .int x1] (hs E M) (some (.int (F174 M x1))) (hs E M) :=
  w174_0 (⟨H.1, ⟨fun h0 => gw_reteq (if_pos h0), fun h0 => ⟨(H.2.2 h0), gw_reteq (if_neg h0)⟩⟩⟩)
-- 177 GlassWires colour (III)I
theorem w177_0 {E : gw_N} {M : Mem} {res : Option Value × gw_H} {x1 : Int32} {x2 : Int32} {x3 : Int32} (H : (((F94 M x1) = 0 → res = (some (.int (-101)), hs E M)) ∧ (¬ (F94 M x1) = 0 → (((F95 M x2) = 0 → res = (some (.int (-101)), hs E M)) ∧ (¬ (F95 M x2) = 0 → (∃ (r1 : Int32) (M1 : Mem), Rn 97 [.ref 40, .int x1, .int x2, .int x3] (hs E M) (some (.int r1)) (hs E M1) ∧ res = (some (.int r1), hs E M1))))))) : Ev 2 177 0 [some (.ref 8), some (.int x1), some (.int x2), some (.int x3)] [] (hs E M) res := by
  refine Ev.steps 1 (pc' := 1) (L' := [some (.ref 8), some (.int x1), some (.int x2), some (.int x3)]) (st' := [.int x1]) rfl ?_
  refine Ev.call (y := 94) (args := [.int x1]) (rest := []) (r := some (.int (F94 M x1))) rfl (s94) ?_
  show Ev 2 177 4 [some (.ref 8), some (.int x1), some (.int x2), some (.int x3)] [.int (F94 M x1)] _ _
  refine Ev.steps 1 (pc' := if (F94 M x1) = 0 then 14 else 7) (L' := [some (.ref 8), some (.int x1), some (.int x2), some (.int x3)]) (st' := []) rfl ?_
  refine Ev_ite (fun hc => ?_) (fun hc => ?_)
  · replace H := H.1 hc
    refine Ev.steps 1 (pc' := 16) (L' := [some (.ref 8), some (.int x1), some (.int x2), some (.int x3)]) (st' := [.int (-101)]) rfl ?_
    subst H
    exact Ev.ret rfl
  · replace H := H.2 hc
    refine Ev.steps 1 (pc' := 8) (L' := [some (.ref 8), some (.int x1), some (.int x2), some (.int x3)]) (st' := [.int x2]) rfl ?_
    refine Ev.call (y := 95) (args := [.int x2]) (rest := []) (r := some (.int (F95 M x2))) rfl (s95) ?_
    show Ev 2 177 11 [some (.ref 8), some (.int x1), some (.int x2), some (.int x3)] [.int (F95 M x2)] _ _
    refine Ev.steps 1 (pc' := if (F95 M x2) = 0 then 14 else 17) (L' := [some (.ref 8), some (.int x1), some (.int x2), some (.int x3)]) (st' := []) rfl ?_
    refine Ev_ite (fun hc => ?_) (fun hc => ?_)
    · replace H := H.1 hc
      refine Ev.steps 1 (pc' := 16) (L' := [some (.ref 8), some (.int x1), some (.int x2), some (.int x3)]) (st' := [.int (-101)]) rfl ?_
      subst H
      exact Ev.ret rfl
    · replace H := H.2 hc
      refine Ev.steps 5 (pc' := 24) (L' := [some (.ref 8), some (.int x1), some (.int x2), some (.int x3)]) (st' := [.int x3, .int x2, .int x1, .ref 40]) rfl ?_
      obtain ⟨r1, M1, hr1, H⟩ := H
      refine Ev.call (y := 97) (args := [.ref 40, .int x1, .int x2, .int x3]) (rest := []) (r := (some (.int r1))) rfl hr1 ?_
      show Ev 2 177 27 [some (.ref 8), some (.int x1), some (.int x2), some (.int x3)] [.int r1] _ _
      subst H
      exact Ev.ret rfl

-- 178 GlassWires foes (IIZ)I
theorem w178_0 {E : gw_N} {M : Mem} {res : Option Value × gw_H} {x1 : Int32} {x2 : Int32} {x3 : Int32} (H : (((F94 M x1) = 0 → res = (some (.int (-101)), hs E M)) ∧ (¬ (F94 M x1) = 0 → (((F94 M x2) = 0 → res = (some (.int (-101)), hs E M)) ∧ (¬ (F94 M x2) = 0 → ((x1 = x2 → res = (some (.int (-102)), hs E M)) ∧ (¬ x1 = x2 → (P106 M x1 x2 ∧ (∃ (M1 : Mem), Rn 107 [.ref 40, .int x1, .int x2, .int x3] (hs E M) none (hs E M1) ∧ res = (some (.int (F206 M (F106 M x1 x2))), hs E M1)))))))))) : Ev 2 178 0 [some (.ref 8), some (.int x1), some (.int x2), some (.int x3), none] [] (hs E M) res := by
  refine Ev.steps 1 (pc' := 1) (L' := [some (.ref 8), some (.int x1), some (.int x2), some (.int x3), none]) (st' := [.int x1]) rfl ?_
  refine Ev.call (y := 94) (args := [.int x1]) (rest := []) (r := some (.int (F94 M x1))) rfl (s94) ?_
  show Ev 2 178 4 [some (.ref 8), some (.int x1), some (.int x2), some (.int x3), none] [.int (F94 M x1)] _ _
  refine Ev.steps 1 (pc' := if (F94 M x1) = 0 then 14 else 7) (L' := [some (.ref 8), some (.int x1), some (.int x2), some (.int x3), none]) (st' := []) rfl ?_
  refine Ev_ite (fun hc => ?_) (fun hc => ?_)
  · replace H := H.1 hc
    refine Ev.steps 1 (pc' := 16) (L' := [some (.ref 8), some (.int x1), some (.int x2), some (.int x3), none]) (st' := [.int (-101)]) rfl ?_
    subst H
    exact Ev.ret rfl
  · replace H := H.2 hc
    refine Ev.steps 1 (pc' := 8) (L' := [some (.ref 8), some (.int x1), some (.int x2), some (.int x3), none]) (st' := [.int x2]) rfl ?_
    refine Ev.call (y := 94) (args := [.int x2]) (rest := []) (r := some (.int (F94 M x2))) rfl (s94) ?_
    show Ev 2 178 11 [some (.ref 8), some (.int x1), some (.int x2), some (.int x3), none] [.int (F94 M x2)] _ _
    refine Ev.steps 1 (pc' := if (F94 M x2) = 0 then 14 else 17) (L' := [some (.ref 8), some (.int x1), some (.int x2), some (.int x3), none]) (st' := []) rfl ?_
    refine Ev_ite (fun hc => ?_) (fun hc => ?_)
    · replace H := H.1 hc
      refine Ev.steps 1 (pc' := 16) (L' := [some (.ref 8), some (.int x1), some (.int x2), some (.int x3), none]) (st' := [.int (-101)]) rfl ?_
      subst H
      exact Ev.ret rfl
    · replace H := H.2 hc
      refine Ev.steps 3 (pc' := if x1 = x2 then 22 else 25) (L' := [some (.ref 8), some (.int x1), some (.int x2), some (.int x3), none]) (st' := []) rfl ?_
      refine Ev_ite (fun hc => ?_) (fun hc => ?_)
      · replace H := H.1 hc
        refine Ev.steps 1 (pc' := 24) (L' := [some (.ref 8), some (.int x1), some (.int x2), some (.int x3), none]) (st' := [.int (-102)]) rfl ?_
        subst H
        exact Ev.ret rfl
      · replace H := H.2 hc
        refine Ev.steps 4 (pc' := 31) (L' := [some (.ref 8), some (.int x1), some (.int x2), some (.int x3), none]) (st' := [.int x2, .int x1, .ref 40]) rfl ?_
        refine Ev.call (y := 106) (args := [.ref 40, .int x1, .int x2]) (rest := []) (r := some (.int (F106 M x1 x2))) rfl (s106 H.1) ?_
        replace H := H.2
        show Ev 2 178 34 [some (.ref 8), some (.int x1), some (.int x2), some (.int x3), none] [.int (F106 M x1 x2)] _ _
        refine Ev.call (y := 206) (args := [.int (F106 M x1 x2)]) (rest := []) (r := some (.int (F206 M (F106 M x1 x2)))) rfl (s206) ?_
        show Ev 2 178 37 [some (.ref 8), some (.int x1), some (.int x2), some (.int x3), none] [.int (F206 M (F106 M x1 x2))] _ _
        refine Ev.steps 6 (pc' := 46) (L' := [some (.ref 8), some (.int x1), some (.int x2), some (.int x3), some (.int (F206 M (F106 M x1 x2)))]) (st' := [.int x3, .int x2, .int x1, .ref 40]) rfl ?_
        obtain ⟨M1, hr1, H⟩ := H
        refine Ev.call (y := 107) (args := [.ref 40, .int x1, .int x2, .int x3]) (rest := []) (r := none) rfl hr1 ?_
        show Ev 2 178 49 [some (.ref 8), some (.int x1), some (.int x2), some (.int x3), some (.int (F206 M (F106 M x1 x2)))] [] _ _
        refine Ev.steps 1 (pc' := 51) (L' := [some (.ref 8), some (.int x1), some (.int x2), some (.int x3), some (.int (F206 M (F106 M x1 x2)))]) (st' := [.int (F206 M (F106 M x1 x2))]) rfl ?_
        subst H
        exact Ev.ret rfl

-- 179 GlassWires rule (II)I
theorem w179_0 {E : gw_N} {M : Mem} {res : Option Value × gw_H} {x1 : Int32} {x2 : Int32} (H : (((F96 M x1) = 0 → res = (some (.int (-101)), hs E M)) ∧ (¬ (F96 M x1) = 0 → (∃ (r1 : Int32) (M1 : Mem), Rn 98 [.ref 40, .int x1, .int x2] (hs E M) (some (.int r1)) (hs E M1) ∧ res = (some (.int r1), hs E M1))))) : Ev 2 179 0 [some (.ref 8), some (.int x1), some (.int x2)] [] (hs E M) res := by
  refine Ev.steps 1 (pc' := 1) (L' := [some (.ref 8), some (.int x1), some (.int x2)]) (st' := [.int x1]) rfl ?_
  refine Ev.call (y := 96) (args := [.int x1]) (rest := []) (r := some (.int (F96 M x1))) rfl (s96) ?_
  show Ev 2 179 4 [some (.ref 8), some (.int x1), some (.int x2)] [.int (F96 M x1)] _ _
  refine Ev.steps 1 (pc' := if (F96 M x1) = 0 then 19 else 7) (L' := [some (.ref 8), some (.int x1), some (.int x2)]) (st' := []) rfl ?_
  refine Ev_ite (fun hc => ?_) (fun hc => ?_)
  · replace H := H.1 hc
    refine Ev.steps 1 (pc' := 21) (L' := [some (.ref 8), some (.int x1), some (.int x2)]) (st' := [.int (-101)]) rfl ?_
    subst H
    exact Ev.ret rfl
  · replace H := H.2 hc
    refine Ev.steps 4 (pc' := 13) (L' := [some (.ref 8), some (.int x1), some (.int x2)]) (st' := [.int x2, .int x1, .ref 40]) rfl ?_
    obtain ⟨r1, M1, hr1, H⟩ := H
    refine Ev.call (y := 98) (args := [.ref 40, .int x1, .int x2]) (rest := []) (r := (some (.int r1))) rfl hr1 ?_
    show Ev 2 179 16 [some (.ref 8), some (.int x1), some (.int x2)] [.int r1] _ _
    refine Ev.steps 1 (pc' := 21) (L' := [some (.ref 8), some (.int x1), some (.int x2)]) (st' := [.int r1]) rfl ?_
    subst H
    exact Ev.ret rfl

-- 182 GlassWires field (III)I
theorem w182_0 {E : gw_N} {M : Mem} {res : Option Value × gw_H} {x1 : Int32} {x2 : Int32} {x3 : Int32} (H : (((F43 M x1 x2) = 0 → res = (some (.int (-101)), hs E M)) ∧ (¬ (F43 M x1 x2) = 0 → ((x3 = 0 → (∃ (r1 : Int32), Rn 13 [.ref 44, .int (F45 M x1 x2)] (hs E M) (some (.int r1)) (hs E M) ∧ res = (some (.int r1), hs E M))) ∧ (x3 = 1 → (P11 M (F45 M x1 x2) ∧ res = (some (.int (F11 M (F45 M x1 x2))), hs E M))) ∧ (¬ x3 = 0 → ¬ x3 = 1 → res = (some (.int (-102)), hs E M)))))) : Ev 2 182 0 [some (.ref 8), some (.int x1), some (.int x2), some (.int x3), none] [] (hs E M) res := by
  refine Ev.steps 4 (pc' := 6) (L' := [some (.ref 8), some (.int x1), some (.int x2), some (.int x3), none]) (st' := [.int x2, .int x1, .ref 9]) rfl ?_
  refine Ev.call (y := 43) (args := [.ref 9, .int x1, .int x2]) (rest := []) (r := some (.int (F43 M x1 x2))) rfl (s43) ?_
  show Ev 2 182 9 [some (.ref 8), some (.int x1), some (.int x2), some (.int x3), none] [.int (F43 M x1 x2)] _ _
  refine Ev.steps 1 (pc' := if (F43 M x1 x2) = 0 then 12 else 15) (L' := [some (.ref 8), some (.int x1), some (.int x2), some (.int x3), none]) (st' := []) rfl ?_
  refine Ev_ite (fun hc => ?_) (fun hc => ?_)
  · replace H := H.1 hc
    refine Ev.steps 1 (pc' := 14) (L' := [some (.ref 8), some (.int x1), some (.int x2), some (.int x3), none]) (st' := [.int (-101)]) rfl ?_
    subst H
    exact Ev.ret rfl
  · replace H := H.2 hc
    refine Ev.steps 4 (pc' := 21) (L' := [some (.ref 8), some (.int x1), some (.int x2), some (.int x3), none]) (st' := [.int x2, .int x1, .ref 9]) rfl ?_
    refine Ev.call (y := 45) (args := [.ref 9, .int x1, .int x2]) (rest := []) (r := some (.int (F45 M x1 x2))) rfl (s45) ?_
    show Ev 2 182 24 [some (.ref 8), some (.int x1), some (.int x2), some (.int x3), none] [.int (F45 M x1 x2)] _ _
    refine Ev.steps 2 (pc' := 27) (L' := [some (.ref 8), some (.int x1), some (.int x2), some (.int x3), some (.int (F45 M x1 x2))]) (st' := [.int x3]) rfl ?_
    by_cases hw0 : x3 = 0
    · replace H := H.1 hw0
      refine Ev.sw (p := ((27 : Nat) + Op.lookupswitch.offset [(0, 25), (1, 35)] 45 (x3 : Int32).toInt : Int).toNat) (pc' := 52) (L' := [some (.ref 8), some (.int x1), some (.int x2), some (.int x3), some (.int (F45 M x1 x2))]) (st' := []) rfl (by rw [hw0]; decide +kernel) ?_
      refine Ev.steps 3 (pc' := 58) (L' := [some (.ref 8), some (.int x1), some (.int x2), some (.int x3), some (.int (F45 M x1 x2))]) (st' := [.int (F45 M x1 x2), .ref 44]) rfl ?_
      obtain ⟨r1, hr1, H⟩ := H
      refine Ev.call (y := 13) (args := [.ref 44, .int (F45 M x1 x2)]) (rest := []) (r := (some (.int r1))) rfl hr1 ?_
      show Ev 2 182 61 [some (.ref 8), some (.int x1), some (.int x2), some (.int x3), some (.int (F45 M x1 x2))] [.int r1] _ _
      subst H
      exact Ev.ret rfl
    replace H := H.2
    by_cases hw1 : x3 = 1
    · replace H := H.1 hw1
      refine Ev.sw (p := ((27 : Nat) + Op.lookupswitch.offset [(0, 25), (1, 35)] 45 (x3 : Int32).toInt : Int).toNat) (pc' := 62) (L' := [some (.ref 8), some (.int x1), some (.int x2), some (.int x3), some (.int (F45 M x1 x2))]) (st' := []) rfl (by rw [hw1]; decide +kernel) ?_
      refine Ev.steps 3 (pc' := 68) (L' := [some (.ref 8), some (.int x1), some (.int x2), some (.int x3), some (.int (F45 M x1 x2))]) (st' := [.int (F45 M x1 x2), .ref 44]) rfl ?_
      refine Ev.call (y := 11) (args := [.ref 44, .int (F45 M x1 x2)]) (rest := []) (r := some (.int (F11 M (F45 M x1 x2)))) rfl (s11 H.1) ?_
      replace H := H.2
      show Ev 2 182 71 [some (.ref 8), some (.int x1), some (.int x2), some (.int x3), some (.int (F45 M x1 x2))] [.int (F11 M (F45 M x1 x2))] _ _
      subst H
      exact Ev.ret rfl
    replace H := H.2
    replace H := H hw0 hw1
    refine Ev.sw (p := ((27 : Nat) + Op.lookupswitch.offset [(0, 25), (1, 35)] 45 (x3 : Int32).toInt : Int).toNat) (pc' := 72) (L' := [some (.ref 8), some (.int x1), some (.int x2), some (.int x3), some (.int (F45 M x1 x2))]) (st' := []) rfl ((by rw [lookupswitch.offset_cons, if_neg (gw_ls_ne (v := 0) (by decide +kernel) hw0), lookupswitch.offset_cons, if_neg (gw_ls_ne (v := 1) (by decide +kernel) hw1), lookupswitch.offset_nil]; decide +kernel)) ?_
    refine Ev.steps 1 (pc' := 74) (L' := [some (.ref 8), some (.int x1), some (.int x2), some (.int x3), some (.int (F45 M x1 x2))]) (st' := [.int (-102)]) rfl ?_
    subst H
    exact Ev.ret rfl

-- 183 GlassWires layer (IIII)I
theorem w183_0 {E : gw_N} {M : Mem} {res : Option Value × gw_H} {x1 : Int32} {x2 : Int32} {x3 : Int32} {x4 : Int32} (H : (((F43 M x1 x2) = 0 → res = (some (.int (-101)), hs E M)) ∧ (¬ (F43 M x1 x2) = 0 → ((x4 < 0 → res = (some (.int (-102)), hs E M)) ∧ (¬ x4 < 0 → ((x4 ≤ 2 → (P14 M (F45 M x1 x2) x3 x4 ∧ res = (some (.int (F14 M (F45 M x1 x2) x3 x4)), hs E M))) ∧ (¬ x4 ≤ 2 → res = (some (.int (-102)), hs E M)))))))) : Ev 2 183 0 [some (.ref 8), some (.int x1), some (.int x2), some (.int x3), some (.int x4)] [] (hs E M) res := by
  refine Ev.steps 4 (pc' := 6) (L' := [some (.ref 8), some (.int x1), some (.int x2), some (.int x3), some (.int x4)]) (st' := [.int x2, .int x1, .ref 9]) rfl ?_
  refine Ev.call (y := 43) (args := [.ref 9, .int x1, .int x2]) (rest := []) (r := some (.int (F43 M x1 x2))) rfl (s43) ?_
  show Ev 2 183 9 [some (.ref 8), some (.int x1), some (.int x2), some (.int x3), some (.int x4)] [.int (F43 M x1 x2)] _ _
  refine Ev.steps 1 (pc' := if (F43 M x1 x2) = 0 then 12 else 15) (L' := [some (.ref 8), some (.int x1), some (.int x2), some (.int x3), some (.int x4)]) (st' := []) rfl ?_
  refine Ev_ite (fun hc => ?_) (fun hc => ?_)
  · replace H := H.1 hc
    refine Ev.steps 1 (pc' := 14) (L' := [some (.ref 8), some (.int x1), some (.int x2), some (.int x3), some (.int x4)]) (st' := [.int (-101)]) rfl ?_
    subst H
    exact Ev.ret rfl
  · replace H := H.2 hc
    refine Ev.steps 2 (pc' := if x4 < 0 then 26 else 20) (L' := [some (.ref 8), some (.int x1), some (.int x2), some (.int x3), some (.int x4)]) (st' := []) rfl ?_
    refine Ev_ite (fun hc => ?_) (fun hc => ?_)
    · replace H := H.1 hc
      refine Ev.steps 1 (pc' := 28) (L' := [some (.ref 8), some (.int x1), some (.int x2), some (.int x3), some (.int x4)]) (st' := [.int (-102)]) rfl ?_
      subst H
      exact Ev.ret rfl
    · replace H := H.2 hc
      refine Ev.steps 3 (pc' := if x4 ≤ 2 then 29 else 26) (L' := [some (.ref 8), some (.int x1), some (.int x2), some (.int x3), some (.int x4)]) (st' := []) rfl ?_
      refine Ev_ite (fun hc => ?_) (fun hc => ?_)
      · replace H := H.1 hc
        refine Ev.steps 6 (pc' := 39) (L' := [some (.ref 8), some (.int x1), some (.int x2), some (.int x3), some (.int x4)]) (st' := [.int x2, .int x1, .ref 9, .ref 44]) rfl ?_
        refine Ev.call (y := 45) (args := [.ref 9, .int x1, .int x2]) (rest := [.ref 44]) (r := some (.int (F45 M x1 x2))) rfl (s45) ?_
        show Ev 2 183 42 [some (.ref 8), some (.int x1), some (.int x2), some (.int x3), some (.int x4)] [.int (F45 M x1 x2), .ref 44] _ _
        refine Ev.steps 2 (pc' := 45) (L' := [some (.ref 8), some (.int x1), some (.int x2), some (.int x3), some (.int x4)]) (st' := [.int x4, .int x3, .int (F45 M x1 x2), .ref 44]) rfl ?_
        refine Ev.call (y := 14) (args := [.ref 44, .int (F45 M x1 x2), .int x3, .int x4]) (rest := []) (r := some (.int (F14 M (F45 M x1 x2) x3 x4))) rfl (s14 H.1) ?_
        replace H := H.2
        show Ev 2 183 48 [some (.ref 8), some (.int x1), some (.int x2), some (.int x3), some (.int x4)] [.int (F14 M (F45 M x1 x2) x3 x4)] _ _
        subst H
        exact Ev.ret rfl
      · replace H := H.2 hc
        refine Ev.steps 1 (pc' := 28) (L' := [some (.ref 8), some (.int x1), some (.int x2), some (.int x3), some (.int x4)]) (st' := [.int (-102)]) rfl ?_
        subst H
        exact Ev.ret rfl

def F183 (M : Mem) (x1 : Int32) (x2 : Int32) (x3 : Int32) (x4 : Int32) : Int32 := (if (F43 M x1 x2) = 0 then (-101) else (if x4 < 0 then (-102) else (if x4 ≤ 2 then (F14 M (F45 M x1 x2) x3 x4) else (-102))))
def P183 (M : Mem) (x1 : Int32) (x2 : Int32) (x3 : Int32) (x4 : Int32) : Prop := (((F43 M x1 x2) = 0 → True) ∧ (¬ (F43 M x1 x2) = 0 → ((x4 < 0 → True) ∧ (¬ x4 < 0 → ((x4 ≤ 2 → (P14 M (F45 M x1 x2) x3 x4)) ∧ (¬ x4 ≤ 2 → True))))))
theorem s183 {E : gw_N} {M : Mem} {x1 : Int32} {x2 : Int32} {x3 : Int32} {x4 : Int32} (H : P183 M x1 x2 x3 x4) : Rn 183 [.ref 8, .int x1, .int x2, .int x3, .int x4] (hs E M) (some (.int (F183 M x1 x2 x3 x4))) (hs E M) :=
  w183_0 (⟨fun h0 => gw_reteq (if_pos h0), fun h0 => ⟨fun h1 => gw_reteq ((if_neg h0).trans (if_pos h1)), fun h1 => ⟨fun h2 => ⟨(((H.2 h0).2 h1).1 h2), gw_reteq (((if_neg h0).trans (if_neg h1)).trans (if_pos h2))⟩, fun h2 => gw_reteq (((if_neg h0).trans (if_neg h1)).trans (if_neg h2))⟩⟩⟩)
-- 190 GlassWires back (II)I
theorem w190_0 {E : gw_N} {M : Mem} {res : Option Value × gw_H} {x1 : Int32} {x2 : Int32} (H : (((F94 M x1) = 0 → res = (some (.int (-101)), hs E M)) ∧ (¬ (F94 M x1) = 0 → ((x2 < 0 → res = (some (.int (-102)), hs E M)) ∧ (¬ x2 < 0 → ((x2 ≤ 99 → (∃ (M1 : Mem), Rn 129 [.ref 53, .int x1, .int x2] (hs E M) none (hs E M1) ∧ res = (some (.int 1), hs E M1))) ∧ (¬ x2 ≤ 99 → res = (some (.int (-102)), hs E M)))))))) : Ev 2 190 0 [some (.ref 8), some (.int x1), some (.int x2)] [] (hs E M) res := by
  refine Ev.steps 1 (pc' := 1) (L' := [some (.ref 8), some (.int x1), some (.int x2)]) (st' := [.int x1]) rfl ?_
  refine Ev.call (y := 94) (args := [.int x1]) (rest := []) (r := some (.int (F94 M x1))) rfl (s94) ?_
  show Ev 2 190 4 [some (.ref 8), some (.int x1), some (.int x2)] [.int (F94 M x1)] _ _
  refine Ev.steps 1 (pc' := if (F94 M x1) = 0 then 7 else 10) (L' := [some (.ref 8), some (.int x1), some (.int x2)]) (st' := []) rfl ?_
  refine Ev_ite (fun hc => ?_) (fun hc => ?_)
  · replace H := H.1 hc
    refine Ev.steps 1 (pc' := 9) (L' := [some (.ref 8), some (.int x1), some (.int x2)]) (st' := [.int (-101)]) rfl ?_
    subst H
    exact Ev.ret rfl
  · replace H := H.2 hc
    refine Ev.steps 2 (pc' := if x2 < 0 then 20 else 14) (L' := [some (.ref 8), some (.int x1), some (.int x2)]) (st' := []) rfl ?_
    refine Ev_ite (fun hc => ?_) (fun hc => ?_)
    · replace H := H.1 hc
      refine Ev.steps 1 (pc' := 22) (L' := [some (.ref 8), some (.int x1), some (.int x2)]) (st' := [.int (-102)]) rfl ?_
      subst H
      exact Ev.ret rfl
    · replace H := H.2 hc
      refine Ev.steps 3 (pc' := if x2 ≤ 99 then 23 else 20) (L' := [some (.ref 8), some (.int x1), some (.int x2)]) (st' := []) rfl ?_
      refine Ev_ite (fun hc => ?_) (fun hc => ?_)
      · replace H := H.1 hc
        refine Ev.steps 4 (pc' := 29) (L' := [some (.ref 8), some (.int x1), some (.int x2)]) (st' := [.int x2, .int x1, .ref 53]) rfl ?_
        obtain ⟨M1, hr1, H⟩ := H
        refine Ev.call (y := 129) (args := [.ref 53, .int x1, .int x2]) (rest := []) (r := none) rfl hr1 ?_
        show Ev 2 190 32 [some (.ref 8), some (.int x1), some (.int x2)] [] _ _
        refine Ev.steps 1 (pc' := 33) (L' := [some (.ref 8), some (.int x1), some (.int x2)]) (st' := [.int 1]) rfl ?_
        subst H
        exact Ev.ret rfl
      · replace H := H.2 hc
        refine Ev.steps 1 (pc' := 22) (L' := [some (.ref 8), some (.int x1), some (.int x2)]) (st' := [.int (-102)]) rfl ?_
        subst H
        exact Ev.ret rfl

-- 199 GlassWires rod (II)I
theorem w199_0 {E : gw_N} {M : Mem} {res : Option Value × gw_H} {x1 : Int32} {x2 : Int32} (H : (∃ (r1 : Int32) (M1 : Mem), Rn 120 [.ref 54, .int x1, .int x2] (hs E M) (some (.int r1)) (hs E M1) ∧ res = (some (.int r1), hs E M1))) : Ev 2 199 0 [some (.ref 8), some (.int x1), some (.int x2)] [] (hs E M) res := by
  refine Ev.steps 4 (pc' := 6) (L' := [some (.ref 8), some (.int x1), some (.int x2)]) (st' := [.int x2, .int x1, .ref 54]) rfl ?_
  obtain ⟨r1, M1, hr1, H⟩ := H
  refine Ev.call (y := 120) (args := [.ref 54, .int x1, .int x2]) (rest := []) (r := (some (.int r1))) rfl hr1 ?_
  show Ev 2 199 9 [some (.ref 8), some (.int x1), some (.int x2)] [.int r1] _ _
  subst H
  exact Ev.ret rfl

-- 211 GlassWiresModel plate (II)I
theorem w211_0 {E : gw_N} {M : Mem} {res : Option Value × gw_H} {x1 : Int32} {x2 : Int32} (H : (((F209 M (Int32.toInt64 x1) 2 8) = 0 → res = (some (.int (-102)), hs E M)) ∧ (¬ (F209 M (Int32.toInt64 x1) 2 8) = 0 → (((F209 M (Int32.toInt64 x2) 2 8) = 0 → res = (some (.int (-102)), hs E M)) ∧ (¬ (F209 M (Int32.toInt64 x2) 2 8) = 0 → (∃ (M1 : Mem), Rn 210 [.ref 59, .int x1, .int x2] (hs E M) none (hs E M1) ∧ res = (some (.int (x1 * x2)), hs E M1))))))) : Ev 2 211 0 [some (.ref 59), some (.int x1), some (.int x2)] [] (hs E M) res := by
  refine Ev.steps 4 (pc' := 8) (L' := [some (.ref 59), some (.int x1), some (.int x2)]) (st' := [.long 8, .long 2, .long (Int32.toInt64 x1)]) rfl ?_
  refine Ev.call (y := 209) (args := [.long (Int32.toInt64 x1), .long 2, .long 8]) (rest := []) (r := some (.int (F209 M (Int32.toInt64 x1) 2 8))) rfl (s209) ?_
  show Ev 2 211 11 [some (.ref 59), some (.int x1), some (.int x2)] [.int (F209 M (Int32.toInt64 x1) 2 8)] _ _
  refine Ev.steps 1 (pc' := if (F209 M (Int32.toInt64 x1) 2 8) = 0 then 28 else 14) (L' := [some (.ref 59), some (.int x1), some (.int x2)]) (st' := []) rfl ?_
  refine Ev_ite (fun hc => ?_) (fun hc => ?_)
  · replace H := H.1 hc
    refine Ev.steps 1 (pc' := 30) (L' := [some (.ref 59), some (.int x1), some (.int x2)]) (st' := [.int (-102)]) rfl ?_
    subst H
    exact Ev.ret rfl
  · replace H := H.2 hc
    refine Ev.steps 4 (pc' := 22) (L' := [some (.ref 59), some (.int x1), some (.int x2)]) (st' := [.long 8, .long 2, .long (Int32.toInt64 x2)]) rfl ?_
    refine Ev.call (y := 209) (args := [.long (Int32.toInt64 x2), .long 2, .long 8]) (rest := []) (r := some (.int (F209 M (Int32.toInt64 x2) 2 8))) rfl (s209) ?_
    show Ev 2 211 25 [some (.ref 59), some (.int x1), some (.int x2)] [.int (F209 M (Int32.toInt64 x2) 2 8)] _ _
    refine Ev.steps 1 (pc' := if (F209 M (Int32.toInt64 x2) 2 8) = 0 then 28 else 31) (L' := [some (.ref 59), some (.int x1), some (.int x2)]) (st' := []) rfl ?_
    refine Ev_ite (fun hc => ?_) (fun hc => ?_)
    · replace H := H.1 hc
      refine Ev.steps 1 (pc' := 30) (L' := [some (.ref 59), some (.int x1), some (.int x2)]) (st' := [.int (-102)]) rfl ?_
      subst H
      exact Ev.ret rfl
    · replace H := H.2 hc
      refine Ev.steps 3 (pc' := 34) (L' := [some (.ref 59), some (.int x1), some (.int x2)]) (st' := [.int x2, .int x1, .ref 59]) rfl ?_
      obtain ⟨M1, hr1, H⟩ := H
      refine Ev.call (y := 210) (args := [.ref 59, .int x1, .int x2]) (rest := []) (r := none) rfl hr1 ?_
      show Ev 2 211 37 [some (.ref 59), some (.int x1), some (.int x2)] [] _ _
      refine Ev.steps 3 (pc' := 40) (L' := [some (.ref 59), some (.int x1), some (.int x2)]) (st' := [.int (x1 * x2)]) rfl ?_
      subst H
      exact Ev.ret rfl

-- 214 GlassWiresModel isPoint (II)Z
theorem w214_0 {E : gw_N} {M : Mem} {res : Option Value × gw_H} {x1 : Int32} {x2 : Int32} (H : (((F209 M (Int32.toInt64 x1) 0 (Int32.toInt64 ((M 59) 0))) = 0 → res = (some (.int 0), hs E M)) ∧ (¬ (F209 M (Int32.toInt64 x1) 0 (Int32.toInt64 ((M 59) 0))) = 0 → (((F209 M (Int32.toInt64 x2) 0 (Int32.toInt64 ((M 59) 1))) = 0 → res = (some (.int 0), hs E M)) ∧ (¬ (F209 M (Int32.toInt64 x2) 0 (Int32.toInt64 ((M 59) 1))) = 0 → res = (some (.int 1), hs E M)))))) : Ev 2 214 0 [some (.ref 59), some (.int x1), some (.int x2)] [] (hs E M) res := by
  refine Ev.steps 6 (pc' := 8) (L' := [some (.ref 59), some (.int x1), some (.int x2)]) (st' := [.long (Int32.toInt64 ((M 59) 0)), .long 0, .long (Int32.toInt64 x1)]) rfl ?_
  refine Ev.call (y := 209) (args := [.long (Int32.toInt64 x1), .long 0, .long (Int32.toInt64 ((M 59) 0))]) (rest := []) (r := some (.int (F209 M (Int32.toInt64 x1) 0 (Int32.toInt64 ((M 59) 0))))) rfl (s209) ?_
  show Ev 2 214 11 [some (.ref 59), some (.int x1), some (.int x2)] [.int (F209 M (Int32.toInt64 x1) 0 (Int32.toInt64 ((M 59) 0)))] _ _
  refine Ev.steps 1 (pc' := if (F209 M (Int32.toInt64 x1) 0 (Int32.toInt64 ((M 59) 0))) = 0 then 32 else 14) (L' := [some (.ref 59), some (.int x1), some (.int x2)]) (st' := []) rfl ?_
  refine Ev_ite (fun hc => ?_) (fun hc => ?_)
  · replace H := H.1 hc
    refine Ev.steps 1 (pc' := 33) (L' := [some (.ref 59), some (.int x1), some (.int x2)]) (st' := [.int 0]) rfl ?_
    subst H
    exact Ev.ret rfl
  · replace H := H.2 hc
    refine Ev.steps 6 (pc' := 22) (L' := [some (.ref 59), some (.int x1), some (.int x2)]) (st' := [.long (Int32.toInt64 ((M 59) 1)), .long 0, .long (Int32.toInt64 x2)]) rfl ?_
    refine Ev.call (y := 209) (args := [.long (Int32.toInt64 x2), .long 0, .long (Int32.toInt64 ((M 59) 1))]) (rest := []) (r := some (.int (F209 M (Int32.toInt64 x2) 0 (Int32.toInt64 ((M 59) 1))))) rfl (s209) ?_
    show Ev 2 214 25 [some (.ref 59), some (.int x1), some (.int x2)] [.int (F209 M (Int32.toInt64 x2) 0 (Int32.toInt64 ((M 59) 1)))] _ _
    refine Ev.steps 1 (pc' := if (F209 M (Int32.toInt64 x2) 0 (Int32.toInt64 ((M 59) 1))) = 0 then 32 else 28) (L' := [some (.ref 59), some (.int x1), some (.int x2)]) (st' := []) rfl ?_
    refine Ev_ite (fun hc => ?_) (fun hc => ?_)
    · replace H := H.1 hc
      refine Ev.steps 1 (pc' := 33) (L' := [some (.ref 59), some (.int x1), some (.int x2)]) (st' := [.int 0]) rfl ?_
      subst H
      exact Ev.ret rfl
    · replace H := H.2 hc
      refine Ev.steps 2 (pc' := 33) (L' := [some (.ref 59), some (.int x1), some (.int x2)]) (st' := [.int 1]) rfl ?_
      subst H
      exact Ev.ret rfl

def F214 (M : Mem) (x1 : Int32) (x2 : Int32) : Int32 := (if (F209 M (Int32.toInt64 x1) 0 (Int32.toInt64 ((M 59) 0))) = 0 then 0 else (if (F209 M (Int32.toInt64 x2) 0 (Int32.toInt64 ((M 59) 1))) = 0 then 0 else 1))
theorem bb214 {M : Mem} {x1 : Int32} {x2 : Int32} : F214 M x1 x2 &&& 1 = F214 M x1 x2 := by
  unfold F214
  (repeat' split) <;> first | rfl | decide
theorem s214 {E : gw_N} {M : Mem} {x1 : Int32} {x2 : Int32} : Rn 214 [.ref 59, .int x1, .int x2] (hs E M) (some (.int (F214 M x1 x2))) (hs E M) :=
  w214_0 (⟨fun h0 => gw_reteq (if_pos h0), fun h0 => ⟨fun h1 => gw_reteq ((if_neg h0).trans (if_pos h1)), fun h1 => gw_reteq ((if_neg h0).trans (if_neg h1))⟩⟩)
-- 220 GlassWiresModel isWire (I)Z
theorem w220_0 {E : gw_N} {M : Mem} {res : Option Value × gw_H} {x1 : Int32} (H : res = (some (.int (F209 M (Int32.toInt64 x1) 0 (Int32.toInt64 (((M 59) 4) - 1)))), hs E M)) : Ev 2 220 0 [some (.ref 59), some (.int x1)] [] (hs E M) res := by
  refine Ev.steps 8 (pc' := 10) (L' := [some (.ref 59), some (.int x1)]) (st' := [.long (Int32.toInt64 (((M 59) 4) - 1)), .long 0, .long (Int32.toInt64 x1)]) rfl ?_
  refine Ev.call (y := 209) (args := [.long (Int32.toInt64 x1), .long 0, .long (Int32.toInt64 (((M 59) 4) - 1))]) (rest := []) (r := some (.int (F209 M (Int32.toInt64 x1) 0 (Int32.toInt64 (((M 59) 4) - 1))))) rfl (s209) ?_
  show Ev 2 220 13 [some (.ref 59), some (.int x1)] [.int (F209 M (Int32.toInt64 x1) 0 (Int32.toInt64 (((M 59) 4) - 1)))] _ _
  subst H
  exact Ev.ret (if_pos bb209)

def F220 (M : Mem) (x1 : Int32) : Int32 := (F209 M (Int32.toInt64 x1) 0 (Int32.toInt64 (((M 59) 4) - 1)))
theorem bb220 {M : Mem} {x1 : Int32} : F220 M x1 &&& 1 = F220 M x1 := by
  unfold F220
  (repeat' split) <;> first | rfl | decide | exact bb209
theorem s220 {E : gw_N} {M : Mem} {x1 : Int32} : Rn 220 [.ref 59, .int x1] (hs E M) (some (.int (F220 M x1))) (hs E M) :=
  w220_0 (rfl)
