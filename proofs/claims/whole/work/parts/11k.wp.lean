/-! by program (wp.py): formulas that are enough -/
-- 162 GlassWires letters (J)I
set_option maxRecDepth 20000 in
theorem w162_0 {E : gw_N} {M : Mem} {res : Option Value × gw_H} {x1 : Int64} (H : (∃ (r1 : Int32) (M1 : Mem), Rn 80 [.ref 12, .long x1] (hs E M) (some (.int r1)) (hs E M1) ∧ res = (some (.int r1), hs E M1))) : Ev 4 162 0 [some (.ref 8), some (.long x1), none] [] (hs E M) res := by
  refine Ev.steps 3 (pc' := 5) (L' := [some (.ref 8), some (.long x1), none]) (st' := [.long x1, .ref 12]) rfl ?_
  obtain ⟨r1, M1, hr1, H⟩ := H
  refine Ev.call (y := 80) (args := [.ref 12, .long x1]) (rest := []) (r := (some (.int r1))) rfl hr1 ?_
  show Ev 4 162 8 [some (.ref 8), some (.long x1), none] [.int r1] _ _
  subst H
  exact Ev.ret rfl

-- 185 GlassWires polish ()I
set_option maxRecDepth 20000 in
theorem w185_0 {E : gw_N} {M : Mem} {res : Option Value × gw_H}  (H : (∃ (r1 : Int32) (M1 : Mem), Rn 25 [.ref 44] (hs E M) (some (.int r1)) (hs E M1) ∧ res = (some (.int r1), hs E M1))) : Ev 4 185 0 [some (.ref 8)] [] (hs E M) res := by
  refine Ev.steps 2 (pc' := 4) (L' := [some (.ref 8)]) (st' := [.ref 44]) rfl ?_
  obtain ⟨r1, M1, hr1, H⟩ := H
  refine Ev.call (y := 25) (args := [.ref 44]) (rest := []) (r := (some (.int r1))) rfl hr1 ?_
  show Ev 4 185 7 [some (.ref 8)] [.int r1] _ _
  subst H
  exact Ev.ret rfl

-- 188 GlassWires plan (I)I
set_option maxRecDepth 20000 in
theorem w188_0 {E : gw_N} {M : Mem} {res : Option Value × gw_H} {x1 : Int32} (H : (((F111 M x1) = 0 → res = (some (.int (-102)), hs E M)) ∧ (¬ (F111 M x1) = 0 → (∃ (M1 : Mem), Rn 112 [.ref 50, .int x1] (hs E M) none (hs E M1) ∧ (∃ (r2 : Int32), Rn 115 [.ref 50] (hs E M1) (some (.int r2)) (hs E M1) ∧ res = (some (.int r2), hs E M1)))))) : Ev 4 188 0 [some (.ref 8), some (.int x1)] [] (hs E M) res := by
  refine Ev.steps 1 (pc' := 1) (L' := [some (.ref 8), some (.int x1)]) (st' := [.int x1]) rfl ?_
  refine Ev.call (y := 111) (args := [.int x1]) (rest := []) (r := some (.int (F111 M x1))) rfl (s111) ?_
  show Ev 4 188 4 [some (.ref 8), some (.int x1)] [.int (F111 M x1)] _ _
  refine Ev.steps 1 (pc' := if (F111 M x1) = 0 then 7 else 10) (L' := [some (.ref 8), some (.int x1)]) (st' := []) rfl ?_
  refine Ev_ite (fun hc => ?_) (fun hc => ?_)
  · replace H := H.1 hc
    refine Ev.steps 1 (pc' := 9) (L' := [some (.ref 8), some (.int x1)]) (st' := [.int (-102)]) rfl ?_
    subst H
    exact Ev.ret rfl
  · replace H := H.2 hc
    refine Ev.steps 3 (pc' := 15) (L' := [some (.ref 8), some (.int x1)]) (st' := [.int x1, .ref 50]) rfl ?_
    obtain ⟨M1, hr1, H⟩ := H
    refine Ev.call (y := 112) (args := [.ref 50, .int x1]) (rest := []) (r := none) rfl hr1 ?_
    show Ev 4 188 18 [some (.ref 8), some (.int x1)] [] _ _
    refine Ev.steps 2 (pc' := 22) (L' := [some (.ref 8), some (.int x1)]) (st' := [.ref 50]) rfl ?_
    obtain ⟨r2, hr2, H⟩ := H
    refine Ev.call (y := 115) (args := [.ref 50]) (rest := []) (r := (some (.int r2))) rfl hr2 ?_
    show Ev 4 188 25 [some (.ref 8), some (.int x1)] [.int r2] _ _
    subst H
    exact Ev.ret rfl

-- 189 GlassWires heat (II)I
set_option maxRecDepth 20000 in
theorem w189_0 {E : gw_N} {M : Mem} {res : Option Value × gw_H} {x1 : Int32} {x2 : Int32} (H : (((F111 M x1) = 0 → res = (some (.int (-102)), hs E M)) ∧ (¬ (F111 M x1) = 0 → (∃ (M1 : Mem), Rn 112 [.ref 50, .int x1] (hs E M) none (hs E M1) ∧ (∃ (r2 : Int32), Rn 116 [.ref 50, .int x2] (hs E M1) (some (.int r2)) (hs E M1) ∧ res = (some (.int r2), hs E M1)))))) : Ev 4 189 0 [some (.ref 8), some (.int x1), some (.int x2)] [] (hs E M) res := by
  refine Ev.steps 1 (pc' := 1) (L' := [some (.ref 8), some (.int x1), some (.int x2)]) (st' := [.int x1]) rfl ?_
  refine Ev.call (y := 111) (args := [.int x1]) (rest := []) (r := some (.int (F111 M x1))) rfl (s111) ?_
  show Ev 4 189 4 [some (.ref 8), some (.int x1), some (.int x2)] [.int (F111 M x1)] _ _
  refine Ev.steps 1 (pc' := if (F111 M x1) = 0 then 7 else 10) (L' := [some (.ref 8), some (.int x1), some (.int x2)]) (st' := []) rfl ?_
  refine Ev_ite (fun hc => ?_) (fun hc => ?_)
  · replace H := H.1 hc
    refine Ev.steps 1 (pc' := 9) (L' := [some (.ref 8), some (.int x1), some (.int x2)]) (st' := [.int (-102)]) rfl ?_
    subst H
    exact Ev.ret rfl
  · replace H := H.2 hc
    refine Ev.steps 3 (pc' := 15) (L' := [some (.ref 8), some (.int x1), some (.int x2)]) (st' := [.int x1, .ref 50]) rfl ?_
    obtain ⟨M1, hr1, H⟩ := H
    refine Ev.call (y := 112) (args := [.ref 50, .int x1]) (rest := []) (r := none) rfl hr1 ?_
    show Ev 4 189 18 [some (.ref 8), some (.int x1), some (.int x2)] [] _ _
    refine Ev.steps 3 (pc' := 23) (L' := [some (.ref 8), some (.int x1), some (.int x2)]) (st' := [.int x2, .ref 50]) rfl ?_
    obtain ⟨r2, hr2, H⟩ := H
    refine Ev.call (y := 116) (args := [.ref 50, .int x2]) (rest := []) (r := (some (.int r2))) rfl hr2 ?_
    show Ev 4 189 26 [some (.ref 8), some (.int x1), some (.int x2)] [.int r2] _ _
    subst H
    exact Ev.ret rfl

-- 191 GlassWires pull (I)I
set_option maxRecDepth 20000 in
theorem w191_0 {E : gw_N} {M : Mem} {res : Option Value × gw_H} {x1 : Int32} (H : ((x1 = 0 → (∃ (r1 : Int32), Rn 30 [.ref 44] (hs E M) (some (.int r1)) (hs E M) ∧ res = (some (.int r1), hs E M))) ∧ (x1 = 1 → (P130 M ∧ res = (some (.int (F130 M)), hs E M))) ∧ (¬ x1 = 0 → ¬ x1 = 1 → res = (some (.int (-102)), hs E M)))) : Ev 4 191 0 [some (.ref 8), some (.int x1)] [] (hs E M) res := by
  refine Ev.steps 1 (pc' := 1) (L' := [some (.ref 8), some (.int x1)]) (st' := [.int x1]) rfl ?_
  by_cases hw0 : x1 = 0
  · replace H := H.1 hw0
    refine Ev.sw (p := ((1 : Nat) + Op.lookupswitch.offset [(0, 27), (1, 35)] 43 (x1 : Int32).toInt : Int).toNat) (pc' := 28) (L' := [some (.ref 8), some (.int x1)]) (st' := []) rfl (by rw [hw0]; decide +kernel) ?_
    refine Ev.steps 2 (pc' := 32) (L' := [some (.ref 8), some (.int x1)]) (st' := [.ref 44]) rfl ?_
    obtain ⟨r1, hr1, H⟩ := H
    refine Ev.call (y := 30) (args := [.ref 44]) (rest := []) (r := (some (.int r1))) rfl hr1 ?_
    show Ev 4 191 35 [some (.ref 8), some (.int x1)] [.int r1] _ _
    subst H
    exact Ev.ret rfl
  replace H := H.2
  by_cases hw1 : x1 = 1
  · replace H := H.1 hw1
    refine Ev.sw (p := ((1 : Nat) + Op.lookupswitch.offset [(0, 27), (1, 35)] 43 (x1 : Int32).toInt : Int).toNat) (pc' := 36) (L' := [some (.ref 8), some (.int x1)]) (st' := []) rfl (by rw [hw1]; decide +kernel) ?_
    refine Ev.steps 2 (pc' := 40) (L' := [some (.ref 8), some (.int x1)]) (st' := [.ref 53]) rfl ?_
    refine Ev.call (y := 130) (args := [.ref 53]) (rest := []) (r := some (.int (F130 M))) rfl (s130 H.1) ?_
    replace H := H.2
    show Ev 4 191 43 [some (.ref 8), some (.int x1)] [.int (F130 M)] _ _
    subst H
    exact Ev.ret rfl
  replace H := H.2
  replace H := H hw0 hw1
  refine Ev.sw (p := ((1 : Nat) + Op.lookupswitch.offset [(0, 27), (1, 35)] 43 (x1 : Int32).toInt : Int).toNat) (pc' := 44) (L' := [some (.ref 8), some (.int x1)]) (st' := []) rfl ((by rw [lookupswitch.offset_cons, if_neg (gw_ls_ne (v := 0) (by decide +kernel) hw0), lookupswitch.offset_cons, if_neg (gw_ls_ne (v := 1) (by decide +kernel) hw1), lookupswitch.offset_nil]; decide +kernel)) ?_
  refine Ev.steps 1 (pc' := 46) (L' := [some (.ref 8), some (.int x1)]) (st' := [.int (-102)]) rfl ?_
  subst H
  exact Ev.ret rfl

-- 193 GlassWires straight (I)I
set_option maxRecDepth 20000 in
theorem w193_0 {E : gw_N} {M : Mem} {res : Option Value × gw_H} {x1 : Int32} (H : (((F94 M x1) = 0 → res = (some (.int (-101)), hs E M)) ∧ (¬ (F94 M x1) = 0 → (∃ (r1 : Int32), Rn 135 [.ref 53, .int x1] (hs E M) (some (.int r1)) (hs E M) ∧ res = (some (.int r1), hs E M))))) : Ev 4 193 0 [some (.ref 8), some (.int x1)] [] (hs E M) res := by
  refine Ev.steps 1 (pc' := 1) (L' := [some (.ref 8), some (.int x1)]) (st' := [.int x1]) rfl ?_
  refine Ev.call (y := 94) (args := [.int x1]) (rest := []) (r := some (.int (F94 M x1))) rfl (s94) ?_
  show Ev 4 193 4 [some (.ref 8), some (.int x1)] [.int (F94 M x1)] _ _
  refine Ev.steps 1 (pc' := if (F94 M x1) = 0 then 18 else 7) (L' := [some (.ref 8), some (.int x1)]) (st' := []) rfl ?_
  refine Ev_ite (fun hc => ?_) (fun hc => ?_)
  · replace H := H.1 hc
    refine Ev.steps 1 (pc' := 20) (L' := [some (.ref 8), some (.int x1)]) (st' := [.int (-101)]) rfl ?_
    subst H
    exact Ev.ret rfl
  · replace H := H.2 hc
    refine Ev.steps 3 (pc' := 12) (L' := [some (.ref 8), some (.int x1)]) (st' := [.int x1, .ref 53]) rfl ?_
    obtain ⟨r1, hr1, H⟩ := H
    refine Ev.call (y := 135) (args := [.ref 53, .int x1]) (rest := []) (r := (some (.int r1))) rfl hr1 ?_
    show Ev 4 193 15 [some (.ref 8), some (.int x1)] [.int r1] _ _
    refine Ev.steps 1 (pc' := 20) (L' := [some (.ref 8), some (.int x1)]) (st' := [.int r1]) rfl ?_
    subst H
    exact Ev.ret rfl

-- 218 GlassWiresModel good (II)I
set_option maxRecDepth 20000 in
theorem w218_0 {E : gw_N} {M : Mem} {res : Option Value × gw_H} {x1 : Int32} {x2 : Int32} (H : (((F214 M x1 x2) = 0 → res = (some (.int (-101)), hs E M)) ∧ (¬ (F214 M x1 x2) = 0 → (∃ (r1 : Int32), Rn 217 [.ref 59, .int x1, .int x2] (hs E M) (some (.int r1)) (hs E M) ∧ res = (some (.int r1), hs E M))))) : Ev 4 218 0 [some (.ref 59), some (.int x1), some (.int x2)] [] (hs E M) res := by
  refine Ev.steps 3 (pc' := 3) (L' := [some (.ref 59), some (.int x1), some (.int x2)]) (st' := [.int x2, .int x1, .ref 59]) rfl ?_
  refine Ev.call (y := 214) (args := [.ref 59, .int x1, .int x2]) (rest := []) (r := some (.int (F214 M x1 x2))) rfl (s214) ?_
  show Ev 4 218 6 [some (.ref 59), some (.int x1), some (.int x2)] [.int (F214 M x1 x2)] _ _
  refine Ev.steps 1 (pc' := if (F214 M x1 x2) = 0 then 18 else 9) (L' := [some (.ref 59), some (.int x1), some (.int x2)]) (st' := []) rfl ?_
  refine Ev_ite (fun hc => ?_) (fun hc => ?_)
  · replace H := H.1 hc
    refine Ev.steps 1 (pc' := 20) (L' := [some (.ref 59), some (.int x1), some (.int x2)]) (st' := [.int (-101)]) rfl ?_
    subst H
    exact Ev.ret rfl
  · replace H := H.2 hc
    refine Ev.steps 3 (pc' := 12) (L' := [some (.ref 59), some (.int x1), some (.int x2)]) (st' := [.int x2, .int x1, .ref 59]) rfl ?_
    obtain ⟨r1, hr1, H⟩ := H
    refine Ev.call (y := 217) (args := [.ref 59, .int x1, .int x2]) (rest := []) (r := (some (.int r1))) rfl hr1 ?_
    show Ev 4 218 15 [some (.ref 59), some (.int x1), some (.int x2)] [.int r1] _ _
    refine Ev.steps 1 (pc' := 20) (L' := [some (.ref 59), some (.int x1), some (.int x2)]) (st' := [.int r1]) rfl ?_
    subst H
    exact Ev.ret rfl

-- 219 GlassWiresModel wire (II)I
set_option maxRecDepth 20000 in
theorem w219_0 {E : gw_N} {M : Mem} {res : Option Value × gw_H} {x1 : Int32} {x2 : Int32} (H : (((F214 M x1 x2) = 0 → res = (some (.int (-101)), hs E M)) ∧ (¬ (F214 M x1 x2) = 0 → ((((M 59) 3) = 0 → res = (some (.int (-103)), hs E M)) ∧ (¬ ((M 59) 3) = 0 → (∃ (r1 : Int32), Rn 217 [.ref 59, .int x1, .int x2] (hs E M) (some (.int r1)) (hs E M) ∧ ((((M 59) 3) ≤ r1 → ((((M 59) 4) = 30 → res = (some (.int (-104)), hs E M)) ∧ (¬ ((M 59) 4) = 30 → (inb (25 * ((M 59) 4)) 750 ∧ (inb (25 * ((M 59) 4)) 750 ∧ Ev 4 219 72 [some (.ref 59), none, none, some (.int (25 * ((M 59) 4))), some (.int 0)] [] (hs E (up (up M 61 (upd (M 61) ((25 * ((M 59) 4)) : Int32).toNatClampNeg x1)) 62 (upd (M 62) ((25 * ((M 59) 4)) : Int32).toNatClampNeg x2))) res))))) ∧ (¬ ((M 59) 3) ≤ r1 → res = (some (.int (-103)), hs E M))))))))) : Ev 4 219 0 [some (.ref 59), some (.int x1), some (.int x2), none, none] [] (hs E M) res := by
  refine Ev.steps 3 (pc' := 3) (L' := [some (.ref 59), some (.int x1), some (.int x2), none, none]) (st' := [.int x2, .int x1, .ref 59]) rfl ?_
  refine Ev.call (y := 214) (args := [.ref 59, .int x1, .int x2]) (rest := []) (r := some (.int (F214 M x1 x2))) rfl (s214) ?_
  show Ev 4 219 6 [some (.ref 59), some (.int x1), some (.int x2), none, none] [.int (F214 M x1 x2)] _ _
  refine Ev.steps 1 (pc' := if (F214 M x1 x2) = 0 then 9 else 12) (L' := [some (.ref 59), some (.int x1), some (.int x2), none, none]) (st' := []) rfl ?_
  refine Ev_ite (fun hc => ?_) (fun hc => ?_)
  · replace H := H.1 hc
    refine Ev.steps 1 (pc' := 11) (L' := [some (.ref 59), some (.int x1), some (.int x2), none, none]) (st' := [.int (-101)]) rfl ?_
    subst H
    exact Ev.ret rfl
  · replace H := H.2 hc
    refine Ev.steps 3 (pc' := if ((M 59) 3) = 0 then 32 else 19) (L' := [some (.ref 59), some (.int x1), some (.int x2), none, none]) (st' := []) rfl ?_
    refine Ev_ite (fun hc => ?_) (fun hc => ?_)
    · replace H := H.1 hc
      refine Ev.steps 1 (pc' := 34) (L' := [some (.ref 59), some (.int x1), some (.int x2), none, none]) (st' := [.int (-103)]) rfl ?_
      subst H
      exact Ev.ret rfl
    · replace H := H.2 hc
      refine Ev.steps 3 (pc' := 22) (L' := [some (.ref 59), some (.int x1), some (.int x2), none, none]) (st' := [.int x2, .int x1, .ref 59]) rfl ?_
      obtain ⟨r1, hr1, H⟩ := H
      refine Ev.call (y := 217) (args := [.ref 59, .int x1, .int x2]) (rest := []) (r := (some (.int r1))) rfl hr1 ?_
      show Ev 4 219 25 [some (.ref 59), some (.int x1), some (.int x2), none, none] [.int r1] _ _
      refine Ev.steps 3 (pc' := if ((M 59) 3) ≤ r1 then 35 else 32) (L' := [some (.ref 59), some (.int x1), some (.int x2), none, none]) (st' := []) rfl ?_
      refine Ev_ite (fun hc => ?_) (fun hc => ?_)
      · replace H := H.1 hc
        refine Ev.steps 4 (pc' := if ((M 59) 4) = 30 then 44 else 47) (L' := [some (.ref 59), some (.int x1), some (.int x2), none, none]) (st' := []) rfl ?_
        refine Ev_ite (fun hc => ?_) (fun hc => ?_)
        · replace H := H.1 hc
          refine Ev.steps 1 (pc' := 46) (L' := [some (.ref 59), some (.int x1), some (.int x2), none, none]) (st' := [.int (-104)]) rfl ?_
          subst H
          exact Ev.ret rfl
        · replace H := H.2 hc
          refine Ev.steps 9 (pc' := 61) (L' := [some (.ref 59), some (.int x1), some (.int x2), some (.int (25 * ((M 59) 4))), none]) (st' := [.int x1, .int (25 * ((M 59) 4)), .ref 61]) rfl ?_
          refine Ev.wr (a := 61) (g := (upd (M 61) ((25 * ((M 59) 4)) : Int32).toNatClampNeg x1)) (i := (25 * ((M 59) 4))) (n := 750) (pc' := 62) (L' := [some (.ref 59), some (.int x1), some (.int x2), some (.int (25 * ((M 59) 4))), none]) (st' := []) (by decide) H.1 rfl ?_
          replace H := H.2
          refine Ev.steps 4 (pc' := 68) (L' := [some (.ref 59), some (.int x1), some (.int x2), some (.int (25 * ((M 59) 4))), none]) (st' := [.int x2, .int (25 * ((M 59) 4)), .ref 62]) rfl ?_
          refine Ev.wr (a := 62) (g := (upd (M 62) ((25 * ((M 59) 4)) : Int32).toNatClampNeg x2)) (i := (25 * ((M 59) 4))) (n := 750) (pc' := 69) (L' := [some (.ref 59), some (.int x1), some (.int x2), some (.int (25 * ((M 59) 4))), none]) (st' := []) (by decide) H.1 rfl ?_
          replace H := H.2
          refine Ev.steps 2 (pc' := 72) (L' := [some (.ref 59), some (.int x1), some (.int x2), some (.int (25 * ((M 59) 4))), some (.int 0)]) (st' := []) rfl ?_
          exact Ev.weak [some (.ref 59), none, none, some (.int (25 * ((M 59) 4))), some (.int 0)] (gw_leb_le ⟨rfl, rfl, rfl, trivial⟩) H
      · replace H := H.2 hc
        refine Ev.steps 1 (pc' := 34) (L' := [some (.ref 59), some (.int x1), some (.int x2), none, none]) (st' := [.int (-103)]) rfl ?_
        subst H
        exact Ev.ret rfl

set_option maxRecDepth 20000 in
theorem w219_72 {E : gw_N} {M : Mem} {res : Option Value × gw_H} {x3 : Int32} {x4 : Int32} (H : ((((M 59) 3) ≤ x4 → (inb ((M 59) 4) 30 ∧ (inb ((M 59) 4) 30 ∧ (inb ((M 59) 4) 30 ∧ res = (some (.int (((upd (upd (M 59) 3 0) 4 (((upd (M 59) 3 0) 4) + 1)) 4) - 1)), hs E (up (up (up (up M 63 (upd (M 63) (((M 59) 4) : Int32).toNatClampNeg ((M 59) 3))) 64 (upd (M 64) (((M 59) 4) : Int32).toNatClampNeg (1 &&& 1))) 65 (upd (M 65) (((M 59) 4) : Int32).toNatClampNeg (0 &&& 1))) 59 (upd (upd (M 59) 3 0) 4 (((upd (M 59) 3 0) 4) + 1)))))))) ∧ (¬ ((M 59) 3) ≤ x4 → (inb (x3 + x4) 750 ∧ (inb x4 40 ∧ (inb ((x3 + x4) + 1) 750 ∧ (inb (x3 + x4) 750 ∧ (inb x4 40 ∧ (inb ((x3 + x4) + 1) 750 ∧ Ev 4 219 72 [some (.ref 59), none, none, some (.int x3), some (.int (x4 + 1))] [] (hs E (up (up M 61 (upd (M 61) (((x3 + x4) + 1) : Int32).toNatClampNeg (((M 61) ((x3 + x4) : Int32).toNatClampNeg) + (F215 M ((M 60) (x4 : Int32).toNatClampNeg))))) 62 (upd (M 62) (((x3 + x4) + 1) : Int32).toNatClampNeg (((M 62) ((x3 + x4) : Int32).toNatClampNeg) + (F216 (up M 61 (upd (M 61) (((x3 + x4) + 1) : Int32).toNatClampNeg (((M 61) ((x3 + x4) : Int32).toNatClampNeg) + (F215 M ((M 60) (x4 : Int32).toNatClampNeg))))) ((M 60) (x4 : Int32).toNatClampNeg)))))) res))))))))) : Ev 4 219 72 [some (.ref 59), none, none, some (.int x3), some (.int x4)] [] (hs E M) res := by
  refine Ev.steps 4 (pc' := if ((M 59) 3) ≤ x4 then 149 else 81) (L' := [some (.ref 59), none, none, some (.int x3), some (.int x4)]) (st' := []) rfl ?_
  refine Ev_ite (fun hc => ?_) (fun hc => ?_)
  · replace H := H.1 hc
    refine Ev.steps 6 (pc' := 161) (L' := [some (.ref 59), none, none, some (.int x3), some (.int x4)]) (st' := [.int ((M 59) 3), .int ((M 59) 4), .ref 63]) rfl ?_
    refine Ev.wr (a := 63) (g := (upd (M 63) (((M 59) 4) : Int32).toNatClampNeg ((M 59) 3))) (i := ((M 59) 4)) (n := 30) (pc' := 162) (L' := [some (.ref 59), none, none, some (.int x3), some (.int x4)]) (st' := []) (by decide) H.1 rfl ?_
    replace H := H.2
    refine Ev.steps 5 (pc' := 171) (L' := [some (.ref 59), none, none, some (.int x3), some (.int x4)]) (st' := [.int 1, .int ((M 59) 4), .ref 64]) rfl ?_
    refine Ev.wr (a := 64) (g := (upd (M 64) (((M 59) 4) : Int32).toNatClampNeg (1 &&& 1))) (i := ((M 59) 4)) (n := 30) (pc' := 172) (L' := [some (.ref 59), none, none, some (.int x3), some (.int x4)]) (st' := []) (by decide) H.1 rfl ?_
    replace H := H.2
    refine Ev.steps 5 (pc' := 181) (L' := [some (.ref 59), none, none, some (.int x3), some (.int x4)]) (st' := [.int 0, .int ((M 59) 4), .ref 65]) rfl ?_
    refine Ev.wr (a := 65) (g := (upd (M 65) (((M 59) 4) : Int32).toNatClampNeg (0 &&& 1))) (i := ((M 59) 4)) (n := 30) (pc' := 182) (L' := [some (.ref 59), none, none, some (.int x3), some (.int x4)]) (st' := []) (by decide) H.1 rfl ?_
    replace H := H.2
    refine Ev.steps 2 (pc' := 184) (L' := [some (.ref 59), none, none, some (.int x3), some (.int x4)]) (st' := [.int 0, .ref 59]) rfl ?_
    refine Ev.mem (a := 59) (g := (upd (M 59) 3 0)) (pc' := 187) (L' := [some (.ref 59), none, none, some (.int x3), some (.int x4)]) (st' := []) (by decide) rfl ?_
    refine Ev.steps 5 (pc' := 194) (L' := [some (.ref 59), none, none, some (.int x3), some (.int x4)]) (st' := [.int (((upd (M 59) 3 0) 4) + 1), .ref 59]) rfl ?_
    refine Ev.mem (a := 59) (g := (upd (upd (M 59) 3 0) 4 (((upd (M 59) 3 0) 4) + 1))) (pc' := 197) (L' := [some (.ref 59), none, none, some (.int x3), some (.int x4)]) (st' := []) (by decide) rfl ?_
    refine Ev.mto (M' := (up (up (up (up M 63 (upd (M 63) (((M 59) 4) : Int32).toNatClampNeg ((M 59) 3))) 64 (upd (M 64) (((M 59) 4) : Int32).toNatClampNeg (1 &&& 1))) 65 (upd (M 65) (((M 59) 4) : Int32).toNatClampNeg (0 &&& 1))) 59 (upd (upd (M 59) 3 0) 4 (((upd (M 59) 3 0) 4) + 1)))) (by funext q9; unfold up; by_cases e9 : q9 = 59 <;> simp [e9]) ?_
    refine Ev.steps 4 (pc' := 203) (L' := [some (.ref 59), none, none, some (.int x3), some (.int x4)]) (st' := [.int (((upd (upd (M 59) 3 0) 4 (((upd (M 59) 3 0) 4) + 1)) 4) - 1)]) rfl ?_
    subst H
    exact Ev.ret rfl
  · replace H := H.2 hc
    refine Ev.steps 12 (pc' := 99) (L' := [some (.ref 59), none, none, some (.int x3), some (.int x4)]) (st' := [.int (x3 + x4), .ref 61, .int ((x3 + x4) + 1), .ref 61]) rfl ?_
    refine Ev.rd (i := (x3 + x4)) (n := 750) (pc' := 100) (L' := [some (.ref 59), none, none, some (.int x3), some (.int x4)]) (st' := [.int ((M 61) ((x3 + x4) : Int32).toNatClampNeg), .int ((x3 + x4) + 1), .ref 61]) H.1 rfl ?_
    replace H := H.2
    refine Ev.steps 3 (pc' := 106) (L' := [some (.ref 59), none, none, some (.int x3), some (.int x4)]) (st' := [.int x4, .ref 60, .int ((M 61) ((x3 + x4) : Int32).toNatClampNeg), .int ((x3 + x4) + 1), .ref 61]) rfl ?_
    refine Ev.rd (i := x4) (n := 40) (pc' := 107) (L' := [some (.ref 59), none, none, some (.int x3), some (.int x4)]) (st' := [.int ((M 60) (x4 : Int32).toNatClampNeg), .int ((M 61) ((x3 + x4) : Int32).toNatClampNeg), .int ((x3 + x4) + 1), .ref 61]) H.1 rfl ?_
    replace H := H.2
    refine Ev.call (y := 215) (args := [.int ((M 60) (x4 : Int32).toNatClampNeg)]) (rest := [.int ((M 61) ((x3 + x4) : Int32).toNatClampNeg), .int ((x3 + x4) + 1), .ref 61]) (r := some (.int (F215 M ((M 60) (x4 : Int32).toNatClampNeg)))) rfl (s215) ?_
    show Ev 4 219 110 [some (.ref 59), none, none, some (.int x3), some (.int x4)] [.int (F215 M ((M 60) (x4 : Int32).toNatClampNeg)), .int ((M 61) ((x3 + x4) : Int32).toNatClampNeg), .int ((x3 + x4) + 1), .ref 61] _ _
    refine Ev.steps 1 (pc' := 111) (L' := [some (.ref 59), none, none, some (.int x3), some (.int x4)]) (st' := [.int (((M 61) ((x3 + x4) : Int32).toNatClampNeg) + (F215 M ((M 60) (x4 : Int32).toNatClampNeg))), .int ((x3 + x4) + 1), .ref 61]) rfl ?_
    refine Ev.wr (a := 61) (g := (upd (M 61) (((x3 + x4) + 1) : Int32).toNatClampNeg (((M 61) ((x3 + x4) : Int32).toNatClampNeg) + (F215 M ((M 60) (x4 : Int32).toNatClampNeg))))) (i := ((x3 + x4) + 1)) (n := 750) (pc' := 112) (L' := [some (.ref 59), none, none, some (.int x3), some (.int x4)]) (st' := []) (by decide) H.1 rfl ?_
    replace H := H.2
    refine Ev.steps 12 (pc' := 130) (L' := [some (.ref 59), none, none, some (.int x3), some (.int x4)]) (st' := [.int (x3 + x4), .ref 62, .int ((x3 + x4) + 1), .ref 62]) rfl ?_
    refine Ev.rd (i := (x3 + x4)) (n := 750) (pc' := 131) (L' := [some (.ref 59), none, none, some (.int x3), some (.int x4)]) (st' := [.int ((M 62) ((x3 + x4) : Int32).toNatClampNeg), .int ((x3 + x4) + 1), .ref 62]) H.1 rfl ?_
    replace H := H.2
    refine Ev.steps 3 (pc' := 137) (L' := [some (.ref 59), none, none, some (.int x3), some (.int x4)]) (st' := [.int x4, .ref 60, .int ((M 62) ((x3 + x4) : Int32).toNatClampNeg), .int ((x3 + x4) + 1), .ref 62]) rfl ?_
    refine Ev.rd (i := x4) (n := 40) (pc' := 138) (L' := [some (.ref 59), none, none, some (.int x3), some (.int x4)]) (st' := [.int ((M 60) (x4 : Int32).toNatClampNeg), .int ((M 62) ((x3 + x4) : Int32).toNatClampNeg), .int ((x3 + x4) + 1), .ref 62]) H.1 rfl ?_
    replace H := H.2
    refine Ev.call (y := 216) (args := [.int ((M 60) (x4 : Int32).toNatClampNeg)]) (rest := [.int ((M 62) ((x3 + x4) : Int32).toNatClampNeg), .int ((x3 + x4) + 1), .ref 62]) (r := some (.int (F216 (up M 61 (upd (M 61) (((x3 + x4) + 1) : Int32).toNatClampNeg (((M 61) ((x3 + x4) : Int32).toNatClampNeg) + (F215 M ((M 60) (x4 : Int32).toNatClampNeg))))) ((M 60) (x4 : Int32).toNatClampNeg)))) rfl (s216) ?_
    show Ev 4 219 141 [some (.ref 59), none, none, some (.int x3), some (.int x4)] [.int (F216 (up M 61 (upd (M 61) (((x3 + x4) + 1) : Int32).toNatClampNeg (((M 61) ((x3 + x4) : Int32).toNatClampNeg) + (F215 M ((M 60) (x4 : Int32).toNatClampNeg))))) ((M 60) (x4 : Int32).toNatClampNeg)), .int ((M 62) ((x3 + x4) : Int32).toNatClampNeg), .int ((x3 + x4) + 1), .ref 62] _ _
    refine Ev.steps 1 (pc' := 142) (L' := [some (.ref 59), none, none, some (.int x3), some (.int x4)]) (st' := [.int (((M 62) ((x3 + x4) : Int32).toNatClampNeg) + (F216 (up M 61 (upd (M 61) (((x3 + x4) + 1) : Int32).toNatClampNeg (((M 61) ((x3 + x4) : Int32).toNatClampNeg) + (F215 M ((M 60) (x4 : Int32).toNatClampNeg))))) ((M 60) (x4 : Int32).toNatClampNeg))), .int ((x3 + x4) + 1), .ref 62]) rfl ?_
    refine Ev.wr (a := 62) (g := (upd (M 62) (((x3 + x4) + 1) : Int32).toNatClampNeg (((M 62) ((x3 + x4) : Int32).toNatClampNeg) + (F216 (up M 61 (upd (M 61) (((x3 + x4) + 1) : Int32).toNatClampNeg (((M 61) ((x3 + x4) : Int32).toNatClampNeg) + (F215 M ((M 60) (x4 : Int32).toNatClampNeg))))) ((M 60) (x4 : Int32).toNatClampNeg))))) (i := ((x3 + x4) + 1)) (n := 750) (pc' := 143) (L' := [some (.ref 59), none, none, some (.int x3), some (.int x4)]) (st' := []) (by decide) H.1 rfl ?_
    replace H := H.2
    refine Ev.steps 2 (pc' := 72) (L' := [some (.ref 59), none, none, some (.int x3), some (.int (x4 + 1))]) (st' := []) rfl ?_
    exact Ev.weak [some (.ref 59), none, none, some (.int x3), some (.int (x4 + 1))] (gw_leb_le ⟨rfl, rfl, rfl, trivial⟩) H

-- 231 GlassWiresModel about (II)I
set_option maxRecDepth 20000 in
theorem w231_0 {E : gw_N} {M : Mem} {res : Option Value × gw_H} {x1 : Int32} {x2 : Int32} (H : (((F220 M x1) = 0 → res = (some (.int (-101)), hs E M)) ∧ (¬ (F220 M x1) = 0 → ((x2 = 0 → (inb x1 30 ∧ res = (some (.int ((M 63) (x1 : Int32).toNatClampNeg)), hs E M))) ∧ (x2 = 1 → (∃ (r1 : Int32), Rn 226 [.ref 59, .int x1] (hs E M) (some (.int r1)) (hs E M) ∧ res = (some (.int r1), hs E M))) ∧ (x2 = 2 → (∃ (r2 : Int32), Rn 227 [.ref 59, .int x1] (hs E M) (some (.int r2)) (hs E M) ∧ ((r2 = 0 → res = (some (.int 0), hs E M)) ∧ (¬ r2 = 0 → res = (some (.int 1), hs E M))))) ∧ (x2 = 3 → (∃ (r3 : Int32), Rn 225 [.ref 59, .int x1] (hs E M) (some (.int r3)) (hs E M) ∧ res = (some (.int r3), hs E M))) ∧ (x2 = 4 → (∃ (M4 : Mem), Rn 230 [.ref 59] (hs E M) none (hs E M4) ∧ (inb x1 30 ∧ ((((M4 64) (x1 : Int32).toNatClampNeg) = 0 → res = (some (.int 0), hs E M4)) ∧ (¬ ((M4 64) (x1 : Int32).toNatClampNeg) = 0 → (inb x1 30 ∧ ((((M4 66) (x1 : Int32).toNatClampNeg) = 0 → res = (some (.int 1), hs E M4)) ∧ (¬ ((M4 66) (x1 : Int32).toNatClampNeg) = 0 → res = (some (.int 0), hs E M4))))))))) ∧ (¬ x2 = 0 → ¬ x2 = 1 → ¬ x2 = 2 → ¬ x2 = 3 → ¬ x2 = 4 → res = (some (.int (-102)), hs E M)))))) : Ev 4 231 0 [some (.ref 59), some (.int x1), some (.int x2)] [] (hs E M) res := by
  refine Ev.steps 2 (pc' := 2) (L' := [some (.ref 59), some (.int x1), some (.int x2)]) (st' := [.int x1, .ref 59]) rfl ?_
  refine Ev.call (y := 220) (args := [.ref 59, .int x1]) (rest := []) (r := some (.int (F220 M x1))) rfl (s220) ?_
  show Ev 4 231 5 [some (.ref 59), some (.int x1), some (.int x2)] [.int (F220 M x1)] _ _
  refine Ev.steps 1 (pc' := if (F220 M x1) = 0 then 8 else 11) (L' := [some (.ref 59), some (.int x1), some (.int x2)]) (st' := []) rfl ?_
  refine Ev_ite (fun hc => ?_) (fun hc => ?_)
  · replace H := H.1 hc
    refine Ev.steps 1 (pc' := 10) (L' := [some (.ref 59), some (.int x1), some (.int x2)]) (st' := [.int (-101)]) rfl ?_
    subst H
    exact Ev.ret rfl
  · replace H := H.2 hc
    refine Ev.steps 1 (pc' := 12) (L' := [some (.ref 59), some (.int x1), some (.int x2)]) (st' := [.int x2]) rfl ?_
    by_cases hw0 : x2 = 0
    · replace H := H.1 hw0
      refine Ev.sw (p := gw_tsw 12 97 0 4 #[36, 43, 49, 63, 69] x2) (pc' := 48) (L' := [some (.ref 59), some (.int x1), some (.int x2)]) (st' := []) rfl (by rw [hw0]; decide +kernel) ?_
      refine Ev.steps 3 (pc' := 53) (L' := [some (.ref 59), some (.int x1), some (.int x2)]) (st' := [.int x1, .ref 63]) rfl ?_
      refine Ev.rd (i := x1) (n := 30) (pc' := 54) (L' := [some (.ref 59), some (.int x1), some (.int x2)]) (st' := [.int ((M 63) (x1 : Int32).toNatClampNeg)]) H.1 rfl ?_
      replace H := H.2
      subst H
      exact Ev.ret rfl
    replace H := H.2
    by_cases hw1 : x2 = 1
    · replace H := H.1 hw1
      refine Ev.sw (p := gw_tsw 12 97 0 4 #[36, 43, 49, 63, 69] x2) (pc' := 55) (L' := [some (.ref 59), some (.int x1), some (.int x2)]) (st' := []) rfl (by rw [hw1]; decide +kernel) ?_
      refine Ev.steps 2 (pc' := 57) (L' := [some (.ref 59), some (.int x1), some (.int x2)]) (st' := [.int x1, .ref 59]) rfl ?_
      obtain ⟨r1, hr1, H⟩ := H
      refine Ev.call (y := 226) (args := [.ref 59, .int x1]) (rest := []) (r := (some (.int r1))) rfl hr1 ?_
      show Ev 4 231 60 [some (.ref 59), some (.int x1), some (.int x2)] [.int r1] _ _
      subst H
      exact Ev.ret rfl
    replace H := H.2
    by_cases hw2 : x2 = 2
    · replace H := H.1 hw2
      refine Ev.sw (p := gw_tsw 12 97 0 4 #[36, 43, 49, 63, 69] x2) (pc' := 61) (L' := [some (.ref 59), some (.int x1), some (.int x2)]) (st' := []) rfl (by rw [hw2]; decide +kernel) ?_
      refine Ev.steps 2 (pc' := 63) (L' := [some (.ref 59), some (.int x1), some (.int x2)]) (st' := [.int x1, .ref 59]) rfl ?_
      obtain ⟨r2, hr2, H⟩ := H
      refine Ev.call (y := 227) (args := [.ref 59, .int x1]) (rest := []) (r := (some (.int r2))) rfl hr2 ?_
      show Ev 4 231 66 [some (.ref 59), some (.int x1), some (.int x2)] [.int r2] _ _
      refine Ev.steps 1 (pc' := if r2 = 0 then 73 else 69) (L' := [some (.ref 59), some (.int x1), some (.int x2)]) (st' := []) rfl ?_
      refine Ev_ite (fun hc => ?_) (fun hc => ?_)
      · replace H := H.1 hc
        refine Ev.steps 1 (pc' := 74) (L' := [some (.ref 59), some (.int x1), some (.int x2)]) (st' := [.int 0]) rfl ?_
        subst H
        exact Ev.ret rfl
      · replace H := H.2 hc
        refine Ev.steps 2 (pc' := 74) (L' := [some (.ref 59), some (.int x1), some (.int x2)]) (st' := [.int 1]) rfl ?_
        subst H
        exact Ev.ret rfl
    replace H := H.2
    by_cases hw3 : x2 = 3
    · replace H := H.1 hw3
      refine Ev.sw (p := gw_tsw 12 97 0 4 #[36, 43, 49, 63, 69] x2) (pc' := 75) (L' := [some (.ref 59), some (.int x1), some (.int x2)]) (st' := []) rfl (by rw [hw3]; decide +kernel) ?_
      refine Ev.steps 2 (pc' := 77) (L' := [some (.ref 59), some (.int x1), some (.int x2)]) (st' := [.int x1, .ref 59]) rfl ?_
      obtain ⟨r3, hr3, H⟩ := H
      refine Ev.call (y := 225) (args := [.ref 59, .int x1]) (rest := []) (r := (some (.int r3))) rfl hr3 ?_
      show Ev 4 231 80 [some (.ref 59), some (.int x1), some (.int x2)] [.int r3] _ _
      subst H
      exact Ev.ret rfl
    replace H := H.2
    by_cases hw4 : x2 = 4
    · replace H := H.1 hw4
      refine Ev.sw (p := gw_tsw 12 97 0 4 #[36, 43, 49, 63, 69] x2) (pc' := 81) (L' := [some (.ref 59), some (.int x1), some (.int x2)]) (st' := []) rfl (by rw [hw4]; decide +kernel) ?_
      refine Ev.steps 1 (pc' := 82) (L' := [some (.ref 59), some (.int x1), some (.int x2)]) (st' := [.ref 59]) rfl ?_
      obtain ⟨M4, hr4, H⟩ := H
      refine Ev.call (y := 230) (args := [.ref 59]) (rest := []) (r := none) rfl hr4 ?_
      show Ev 4 231 85 [some (.ref 59), some (.int x1), some (.int x2)] [] _ _
      refine Ev.steps 3 (pc' := 90) (L' := [some (.ref 59), some (.int x1), some (.int x2)]) (st' := [.int x1, .ref 64]) rfl ?_
      refine Ev.rd (i := x1) (n := 30) (pc' := 91) (L' := [some (.ref 59), some (.int x1), some (.int x2)]) (st' := [.int ((M4 64) (x1 : Int32).toNatClampNeg)]) H.1 rfl ?_
      replace H := H.2
      refine Ev.steps 1 (pc' := if ((M4 64) (x1 : Int32).toNatClampNeg) = 0 then 107 else 94) (L' := [some (.ref 59), some (.int x1), some (.int x2)]) (st' := []) rfl ?_
      refine Ev_ite (fun hc => ?_) (fun hc => ?_)
      · replace H := H.1 hc
        refine Ev.steps 1 (pc' := 108) (L' := [some (.ref 59), some (.int x1), some (.int x2)]) (st' := [.int 0]) rfl ?_
        subst H
        exact Ev.ret rfl
      · replace H := H.2 hc
        refine Ev.steps 3 (pc' := 99) (L' := [some (.ref 59), some (.int x1), some (.int x2)]) (st' := [.int x1, .ref 66]) rfl ?_
        refine Ev.rd (i := x1) (n := 30) (pc' := 100) (L' := [some (.ref 59), some (.int x1), some (.int x2)]) (st' := [.int ((M4 66) (x1 : Int32).toNatClampNeg)]) H.1 rfl ?_
        replace H := H.2
        refine Ev.steps 1 (pc' := if ((M4 66) (x1 : Int32).toNatClampNeg) = 0 then 103 else 107) (L' := [some (.ref 59), some (.int x1), some (.int x2)]) (st' := []) rfl ?_
        refine Ev_ite (fun hc => ?_) (fun hc => ?_)
        · replace H := H.1 hc
          refine Ev.steps 2 (pc' := 108) (L' := [some (.ref 59), some (.int x1), some (.int x2)]) (st' := [.int 1]) rfl ?_
          subst H
          exact Ev.ret rfl
        · replace H := H.2 hc
          refine Ev.steps 1 (pc' := 108) (L' := [some (.ref 59), some (.int x1), some (.int x2)]) (st' := [.int 0]) rfl ?_
          subst H
          exact Ev.ret rfl
    replace H := H.2
    replace H := H hw0 hw1 hw2 hw3 hw4
    refine Ev.sw (p := gw_tsw 12 97 0 4 #[36, 43, 49, 63, 69] x2) (pc' := 109) (L' := [some (.ref 59), some (.int x1), some (.int x2)]) (st' := []) rfl (gw_ts_df (by decide +kernel) (by
      intro k h1 h2
      have h3 : k = 0 ∨ k = 1 ∨ k = 2 ∨ k = 3 ∨ k = 4 := by omega
      rcases h3 with rfl | rfl | rfl | rfl | rfl
      · exact fun h => hw0 (h.trans (by decide +kernel))
      · exact fun h => hw1 (h.trans (by decide +kernel))
      · exact fun h => hw2 (h.trans (by decide +kernel))
      · exact fun h => hw3 (h.trans (by decide +kernel))
      · exact fun h => hw4 (h.trans (by decide +kernel)))) ?_
    refine Ev.steps 1 (pc' := 111) (L' := [some (.ref 59), some (.int x1), some (.int x2)]) (st' := [.int (-102)]) rfl ?_
    subst H
    exact Ev.ret rfl

-- 236 GlassWiresModel covers (III)I
set_option maxRecDepth 20000 in
theorem w236_0 {E : gw_N} {M : Mem} {res : Option Value × gw_H} {x1 : Int32} {x2 : Int32} {x3 : Int32} (H : (((F234 M x1 x2 x3) = 0 → res = (some (.int (-101)), hs E M)) ∧ (¬ (F234 M x1 x2 x3) = 0 → (∃ (r1 : Int32), Rn 233 [.ref 59, .int (F235 M x1 x2 x3)] (hs E M) (some (.int r1)) (hs E M) ∧ res = (some (.int r1), hs E M))))) : Ev 4 236 0 [some (.ref 59), some (.int x1), some (.int x2), some (.int x3)] [] (hs E M) res := by
  refine Ev.steps 4 (pc' := 4) (L' := [some (.ref 59), some (.int x1), some (.int x2), some (.int x3)]) (st' := [.int x3, .int x2, .int x1, .ref 59]) rfl ?_
  refine Ev.call (y := 234) (args := [.ref 59, .int x1, .int x2, .int x3]) (rest := []) (r := some (.int (F234 M x1 x2 x3))) rfl (s234) ?_
  show Ev 4 236 7 [some (.ref 59), some (.int x1), some (.int x2), some (.int x3)] [.int (F234 M x1 x2 x3)] _ _
  refine Ev.steps 1 (pc' := if (F234 M x1 x2 x3) = 0 then 23 else 10) (L' := [some (.ref 59), some (.int x1), some (.int x2), some (.int x3)]) (st' := []) rfl ?_
  refine Ev_ite (fun hc => ?_) (fun hc => ?_)
  · replace H := H.1 hc
    refine Ev.steps 1 (pc' := 25) (L' := [some (.ref 59), some (.int x1), some (.int x2), some (.int x3)]) (st' := [.int (-101)]) rfl ?_
    subst H
    exact Ev.ret rfl
  · replace H := H.2 hc
    refine Ev.steps 4 (pc' := 14) (L' := [some (.ref 59), some (.int x1), some (.int x2), some (.int x3)]) (st' := [.int x3, .int x2, .int x1, .ref 59]) rfl ?_
    refine Ev.call (y := 235) (args := [.int x1, .int x2, .int x3]) (rest := [.ref 59]) (r := some (.int (F235 M x1 x2 x3))) rfl (s235) ?_
    show Ev 4 236 17 [some (.ref 59), some (.int x1), some (.int x2), some (.int x3)] [.int (F235 M x1 x2 x3), .ref 59] _ _
    obtain ⟨r1, hr1, H⟩ := H
    refine Ev.call (y := 233) (args := [.ref 59, .int (F235 M x1 x2 x3)]) (rest := []) (r := (some (.int r1))) rfl hr1 ?_
    show Ev 4 236 20 [some (.ref 59), some (.int x1), some (.int x2), some (.int x3)] [.int r1] _ _
    refine Ev.steps 1 (pc' := 25) (L' := [some (.ref 59), some (.int x1), some (.int x2), some (.int x3)]) (st' := [.int r1]) rfl ?_
    subst H
    exact Ev.ret rfl

-- 239 GlassWiresModel meet (II)I
set_option maxRecDepth 20000 in
theorem w239_0 {E : gw_N} {M : Mem} {res : Option Value × gw_H} {x1 : Int32} {x2 : Int32} (H : (P238 M x1 x2 0 ∧ (((F238 M x1 x2 0) ≤ 0 → (P238 M (x1 - 1) x2 0 ∧ (((F238 M (x1 - 1) x2 0) ≤ 0 → (P238 M x1 x2 1 ∧ (((F238 M x1 x2 1) ≤ 0 → (P238 M x1 (x2 - 1) 1 ∧ (((F238 M x1 (x2 - 1) 1) ≤ 0 → res = (some (.int (((0 + 0) + 0) + 0)), hs E M)) ∧ (¬ (F238 M x1 (x2 - 1) 1) ≤ 0 → res = (some (.int (((0 + 0) + 0) + 1)), hs E M))))) ∧ (¬ (F238 M x1 x2 1) ≤ 0 → (P238 M x1 (x2 - 1) 1 ∧ (((F238 M x1 (x2 - 1) 1) ≤ 0 → res = (some (.int (((0 + 0) + 1) + 0)), hs E M)) ∧ (¬ (F238 M x1 (x2 - 1) 1) ≤ 0 → res = (some (.int (((0 + 0) + 1) + 1)), hs E M)))))))) ∧ (¬ (F238 M (x1 - 1) x2 0) ≤ 0 → (P238 M x1 x2 1 ∧ (((F238 M x1 x2 1) ≤ 0 → (P238 M x1 (x2 - 1) 1 ∧ (((F238 M x1 (x2 - 1) 1) ≤ 0 → res = (some (.int (((0 + 1) + 0) + 0)), hs E M)) ∧ (¬ (F238 M x1 (x2 - 1) 1) ≤ 0 → res = (some (.int (((0 + 1) + 0) + 1)), hs E M))))) ∧ (¬ (F238 M x1 x2 1) ≤ 0 → (P238 M x1 (x2 - 1) 1 ∧ (((F238 M x1 (x2 - 1) 1) ≤ 0 → res = (some (.int (((0 + 1) + 1) + 0)), hs E M)) ∧ (¬ (F238 M x1 (x2 - 1) 1) ≤ 0 → res = (some (.int (((0 + 1) + 1) + 1)), hs E M))))))))))) ∧ (¬ (F238 M x1 x2 0) ≤ 0 → (P238 M (x1 - 1) x2 0 ∧ (((F238 M (x1 - 1) x2 0) ≤ 0 → (P238 M x1 x2 1 ∧ (((F238 M x1 x2 1) ≤ 0 → (P238 M x1 (x2 - 1) 1 ∧ (((F238 M x1 (x2 - 1) 1) ≤ 0 → res = (some (.int (((1 + 0) + 0) + 0)), hs E M)) ∧ (¬ (F238 M x1 (x2 - 1) 1) ≤ 0 → res = (some (.int (((1 + 0) + 0) + 1)), hs E M))))) ∧ (¬ (F238 M x1 x2 1) ≤ 0 → (P238 M x1 (x2 - 1) 1 ∧ (((F238 M x1 (x2 - 1) 1) ≤ 0 → res = (some (.int (((1 + 0) + 1) + 0)), hs E M)) ∧ (¬ (F238 M x1 (x2 - 1) 1) ≤ 0 → res = (some (.int (((1 + 0) + 1) + 1)), hs E M)))))))) ∧ (¬ (F238 M (x1 - 1) x2 0) ≤ 0 → (P238 M x1 x2 1 ∧ (((F238 M x1 x2 1) ≤ 0 → (P238 M x1 (x2 - 1) 1 ∧ (((F238 M x1 (x2 - 1) 1) ≤ 0 → res = (some (.int (((1 + 1) + 0) + 0)), hs E M)) ∧ (¬ (F238 M x1 (x2 - 1) 1) ≤ 0 → res = (some (.int (((1 + 1) + 0) + 1)), hs E M))))) ∧ (¬ (F238 M x1 x2 1) ≤ 0 → (P238 M x1 (x2 - 1) 1 ∧ (((F238 M x1 (x2 - 1) 1) ≤ 0 → res = (some (.int (((1 + 1) + 1) + 0)), hs E M)) ∧ (¬ (F238 M x1 (x2 - 1) 1) ≤ 0 → res = (some (.int (((1 + 1) + 1) + 1)), hs E M)))))))))))))) : Ev 4 239 0 [some (.ref 59), some (.int x1), some (.int x2), none] [] (hs E M) res := by
  refine Ev.steps 4 (pc' := 4) (L' := [some (.ref 59), some (.int x1), some (.int x2), none]) (st' := [.int 0, .int x2, .int x1, .ref 59]) rfl ?_
  refine Ev.call (y := 238) (args := [.ref 59, .int x1, .int x2, .int 0]) (rest := []) (r := some (.int (F238 M x1 x2 0))) rfl (s238 H.1) ?_
  replace H := H.2
  show Ev 4 239 7 [some (.ref 59), some (.int x1), some (.int x2), none] [.int (F238 M x1 x2 0)] _ _
  refine Ev.steps 1 (pc' := if (F238 M x1 x2 0) ≤ 0 then 14 else 10) (L' := [some (.ref 59), some (.int x1), some (.int x2), none]) (st' := []) rfl ?_
  refine Ev_ite (fun hc => ?_) (fun hc => ?_)
  · replace H := H.1 hc
    refine Ev.steps 9 (pc' := 23) (L' := [some (.ref 59), some (.int x1), some (.int x2), some (.int 0)]) (st' := [.int 0, .int x2, .int (x1 - 1), .ref 59, .int 0]) rfl ?_
    refine Ev.call (y := 238) (args := [.ref 59, .int (x1 - 1), .int x2, .int 0]) (rest := [.int 0]) (r := some (.int (F238 M (x1 - 1) x2 0))) rfl (s238 H.1) ?_
    replace H := H.2
    show Ev 4 239 26 [some (.ref 59), some (.int x1), some (.int x2), some (.int 0)] [.int (F238 M (x1 - 1) x2 0), .int 0] _ _
    refine Ev.steps 1 (pc' := if (F238 M (x1 - 1) x2 0) ≤ 0 then 33 else 29) (L' := [some (.ref 59), some (.int x1), some (.int x2), some (.int 0)]) (st' := [.int 0]) rfl ?_
    refine Ev_ite (fun hc => ?_) (fun hc => ?_)
    · replace H := H.1 hc
      refine Ev.steps 8 (pc' := 41) (L' := [some (.ref 59), some (.int x1), some (.int x2), some (.int (0 + 0))]) (st' := [.int 1, .int x2, .int x1, .ref 59, .int (0 + 0)]) rfl ?_
      refine Ev.call (y := 238) (args := [.ref 59, .int x1, .int x2, .int 1]) (rest := [.int (0 + 0)]) (r := some (.int (F238 M x1 x2 1))) rfl (s238 H.1) ?_
      replace H := H.2
      show Ev 4 239 44 [some (.ref 59), some (.int x1), some (.int x2), some (.int (0 + 0))] [.int (F238 M x1 x2 1), .int (0 + 0)] _ _
      refine Ev.steps 1 (pc' := if (F238 M x1 x2 1) ≤ 0 then 51 else 47) (L' := [some (.ref 59), some (.int x1), some (.int x2), some (.int (0 + 0))]) (st' := [.int (0 + 0)]) rfl ?_
      refine Ev_ite (fun hc => ?_) (fun hc => ?_)
      · replace H := H.1 hc
        refine Ev.steps 10 (pc' := 61) (L' := [some (.ref 59), some (.int x1), some (.int x2), some (.int ((0 + 0) + 0))]) (st' := [.int 1, .int (x2 - 1), .int x1, .ref 59, .int ((0 + 0) + 0)]) rfl ?_
        refine Ev.call (y := 238) (args := [.ref 59, .int x1, .int (x2 - 1), .int 1]) (rest := [.int ((0 + 0) + 0)]) (r := some (.int (F238 M x1 (x2 - 1) 1))) rfl (s238 H.1) ?_
        replace H := H.2
        show Ev 4 239 64 [some (.ref 59), some (.int x1), some (.int x2), some (.int ((0 + 0) + 0))] [.int (F238 M x1 (x2 - 1) 1), .int ((0 + 0) + 0)] _ _
        refine Ev.steps 1 (pc' := if (F238 M x1 (x2 - 1) 1) ≤ 0 then 71 else 67) (L' := [some (.ref 59), some (.int x1), some (.int x2), some (.int ((0 + 0) + 0))]) (st' := [.int ((0 + 0) + 0)]) rfl ?_
        refine Ev_ite (fun hc => ?_) (fun hc => ?_)
        · replace H := H.1 hc
          refine Ev.steps 4 (pc' := 75) (L' := [some (.ref 59), some (.int x1), some (.int x2), some (.int (((0 + 0) + 0) + 0))]) (st' := [.int (((0 + 0) + 0) + 0)]) rfl ?_
          subst H
          exact Ev.ret rfl
        · replace H := H.2 hc
          refine Ev.steps 5 (pc' := 75) (L' := [some (.ref 59), some (.int x1), some (.int x2), some (.int (((0 + 0) + 0) + 1))]) (st' := [.int (((0 + 0) + 0) + 1)]) rfl ?_
          subst H
          exact Ev.ret rfl
      · replace H := H.2 hc
        refine Ev.steps 11 (pc' := 61) (L' := [some (.ref 59), some (.int x1), some (.int x2), some (.int ((0 + 0) + 1))]) (st' := [.int 1, .int (x2 - 1), .int x1, .ref 59, .int ((0 + 0) + 1)]) rfl ?_
        refine Ev.call (y := 238) (args := [.ref 59, .int x1, .int (x2 - 1), .int 1]) (rest := [.int ((0 + 0) + 1)]) (r := some (.int (F238 M x1 (x2 - 1) 1))) rfl (s238 H.1) ?_
        replace H := H.2
        show Ev 4 239 64 [some (.ref 59), some (.int x1), some (.int x2), some (.int ((0 + 0) + 1))] [.int (F238 M x1 (x2 - 1) 1), .int ((0 + 0) + 1)] _ _
        refine Ev.steps 1 (pc' := if (F238 M x1 (x2 - 1) 1) ≤ 0 then 71 else 67) (L' := [some (.ref 59), some (.int x1), some (.int x2), some (.int ((0 + 0) + 1))]) (st' := [.int ((0 + 0) + 1)]) rfl ?_
        refine Ev_ite (fun hc => ?_) (fun hc => ?_)
        · replace H := H.1 hc
          refine Ev.steps 4 (pc' := 75) (L' := [some (.ref 59), some (.int x1), some (.int x2), some (.int (((0 + 0) + 1) + 0))]) (st' := [.int (((0 + 0) + 1) + 0)]) rfl ?_
          subst H
          exact Ev.ret rfl
        · replace H := H.2 hc
          refine Ev.steps 5 (pc' := 75) (L' := [some (.ref 59), some (.int x1), some (.int x2), some (.int (((0 + 0) + 1) + 1))]) (st' := [.int (((0 + 0) + 1) + 1)]) rfl ?_
          subst H
          exact Ev.ret rfl
    · replace H := H.2 hc
      refine Ev.steps 9 (pc' := 41) (L' := [some (.ref 59), some (.int x1), some (.int x2), some (.int (0 + 1))]) (st' := [.int 1, .int x2, .int x1, .ref 59, .int (0 + 1)]) rfl ?_
      refine Ev.call (y := 238) (args := [.ref 59, .int x1, .int x2, .int 1]) (rest := [.int (0 + 1)]) (r := some (.int (F238 M x1 x2 1))) rfl (s238 H.1) ?_
      replace H := H.2
      show Ev 4 239 44 [some (.ref 59), some (.int x1), some (.int x2), some (.int (0 + 1))] [.int (F238 M x1 x2 1), .int (0 + 1)] _ _
      refine Ev.steps 1 (pc' := if (F238 M x1 x2 1) ≤ 0 then 51 else 47) (L' := [some (.ref 59), some (.int x1), some (.int x2), some (.int (0 + 1))]) (st' := [.int (0 + 1)]) rfl ?_
      refine Ev_ite (fun hc => ?_) (fun hc => ?_)
      · replace H := H.1 hc
        refine Ev.steps 10 (pc' := 61) (L' := [some (.ref 59), some (.int x1), some (.int x2), some (.int ((0 + 1) + 0))]) (st' := [.int 1, .int (x2 - 1), .int x1, .ref 59, .int ((0 + 1) + 0)]) rfl ?_
        refine Ev.call (y := 238) (args := [.ref 59, .int x1, .int (x2 - 1), .int 1]) (rest := [.int ((0 + 1) + 0)]) (r := some (.int (F238 M x1 (x2 - 1) 1))) rfl (s238 H.1) ?_
        replace H := H.2
        show Ev 4 239 64 [some (.ref 59), some (.int x1), some (.int x2), some (.int ((0 + 1) + 0))] [.int (F238 M x1 (x2 - 1) 1), .int ((0 + 1) + 0)] _ _
        refine Ev.steps 1 (pc' := if (F238 M x1 (x2 - 1) 1) ≤ 0 then 71 else 67) (L' := [some (.ref 59), some (.int x1), some (.int x2), some (.int ((0 + 1) + 0))]) (st' := [.int ((0 + 1) + 0)]) rfl ?_
        refine Ev_ite (fun hc => ?_) (fun hc => ?_)
        · replace H := H.1 hc
          refine Ev.steps 4 (pc' := 75) (L' := [some (.ref 59), some (.int x1), some (.int x2), some (.int (((0 + 1) + 0) + 0))]) (st' := [.int (((0 + 1) + 0) + 0)]) rfl ?_
          subst H
          exact Ev.ret rfl
        · replace H := H.2 hc
          refine Ev.steps 5 (pc' := 75) (L' := [some (.ref 59), some (.int x1), some (.int x2), some (.int (((0 + 1) + 0) + 1))]) (st' := [.int (((0 + 1) + 0) + 1)]) rfl ?_
          subst H
          exact Ev.ret rfl
      · replace H := H.2 hc
        refine Ev.steps 11 (pc' := 61) (L' := [some (.ref 59), some (.int x1), some (.int x2), some (.int ((0 + 1) + 1))]) (st' := [.int 1, .int (x2 - 1), .int x1, .ref 59, .int ((0 + 1) + 1)]) rfl ?_
        refine Ev.call (y := 238) (args := [.ref 59, .int x1, .int (x2 - 1), .int 1]) (rest := [.int ((0 + 1) + 1)]) (r := some (.int (F238 M x1 (x2 - 1) 1))) rfl (s238 H.1) ?_
        replace H := H.2
        show Ev 4 239 64 [some (.ref 59), some (.int x1), some (.int x2), some (.int ((0 + 1) + 1))] [.int (F238 M x1 (x2 - 1) 1), .int ((0 + 1) + 1)] _ _
        refine Ev.steps 1 (pc' := if (F238 M x1 (x2 - 1) 1) ≤ 0 then 71 else 67) (L' := [some (.ref 59), some (.int x1), some (.int x2), some (.int ((0 + 1) + 1))]) (st' := [.int ((0 + 1) + 1)]) rfl ?_
        refine Ev_ite (fun hc => ?_) (fun hc => ?_)
        · replace H := H.1 hc
          refine Ev.steps 4 (pc' := 75) (L' := [some (.ref 59), some (.int x1), some (.int x2), some (.int (((0 + 1) + 1) + 0))]) (st' := [.int (((0 + 1) + 1) + 0)]) rfl ?_
          subst H
          exact Ev.ret rfl
        · replace H := H.2 hc
          refine Ev.steps 5 (pc' := 75) (L' := [some (.ref 59), some (.int x1), some (.int x2), some (.int (((0 + 1) + 1) + 1))]) (st' := [.int (((0 + 1) + 1) + 1)]) rfl ?_
          subst H
          exact Ev.ret rfl
  · replace H := H.2 hc
    refine Ev.steps 10 (pc' := 23) (L' := [some (.ref 59), some (.int x1), some (.int x2), some (.int 1)]) (st' := [.int 0, .int x2, .int (x1 - 1), .ref 59, .int 1]) rfl ?_
    refine Ev.call (y := 238) (args := [.ref 59, .int (x1 - 1), .int x2, .int 0]) (rest := [.int 1]) (r := some (.int (F238 M (x1 - 1) x2 0))) rfl (s238 H.1) ?_
    replace H := H.2
    show Ev 4 239 26 [some (.ref 59), some (.int x1), some (.int x2), some (.int 1)] [.int (F238 M (x1 - 1) x2 0), .int 1] _ _
    refine Ev.steps 1 (pc' := if (F238 M (x1 - 1) x2 0) ≤ 0 then 33 else 29) (L' := [some (.ref 59), some (.int x1), some (.int x2), some (.int 1)]) (st' := [.int 1]) rfl ?_
    refine Ev_ite (fun hc => ?_) (fun hc => ?_)
    · replace H := H.1 hc
      refine Ev.steps 8 (pc' := 41) (L' := [some (.ref 59), some (.int x1), some (.int x2), some (.int (1 + 0))]) (st' := [.int 1, .int x2, .int x1, .ref 59, .int (1 + 0)]) rfl ?_
      refine Ev.call (y := 238) (args := [.ref 59, .int x1, .int x2, .int 1]) (rest := [.int (1 + 0)]) (r := some (.int (F238 M x1 x2 1))) rfl (s238 H.1) ?_
      replace H := H.2
      show Ev 4 239 44 [some (.ref 59), some (.int x1), some (.int x2), some (.int (1 + 0))] [.int (F238 M x1 x2 1), .int (1 + 0)] _ _
      refine Ev.steps 1 (pc' := if (F238 M x1 x2 1) ≤ 0 then 51 else 47) (L' := [some (.ref 59), some (.int x1), some (.int x2), some (.int (1 + 0))]) (st' := [.int (1 + 0)]) rfl ?_
      refine Ev_ite (fun hc => ?_) (fun hc => ?_)
      · replace H := H.1 hc
        refine Ev.steps 10 (pc' := 61) (L' := [some (.ref 59), some (.int x1), some (.int x2), some (.int ((1 + 0) + 0))]) (st' := [.int 1, .int (x2 - 1), .int x1, .ref 59, .int ((1 + 0) + 0)]) rfl ?_
        refine Ev.call (y := 238) (args := [.ref 59, .int x1, .int (x2 - 1), .int 1]) (rest := [.int ((1 + 0) + 0)]) (r := some (.int (F238 M x1 (x2 - 1) 1))) rfl (s238 H.1) ?_
        replace H := H.2
        show Ev 4 239 64 [some (.ref 59), some (.int x1), some (.int x2), some (.int ((1 + 0) + 0))] [.int (F238 M x1 (x2 - 1) 1), .int ((1 + 0) + 0)] _ _
        refine Ev.steps 1 (pc' := if (F238 M x1 (x2 - 1) 1) ≤ 0 then 71 else 67) (L' := [some (.ref 59), some (.int x1), some (.int x2), some (.int ((1 + 0) + 0))]) (st' := [.int ((1 + 0) + 0)]) rfl ?_
        refine Ev_ite (fun hc => ?_) (fun hc => ?_)
        · replace H := H.1 hc
          refine Ev.steps 4 (pc' := 75) (L' := [some (.ref 59), some (.int x1), some (.int x2), some (.int (((1 + 0) + 0) + 0))]) (st' := [.int (((1 + 0) + 0) + 0)]) rfl ?_
          subst H
          exact Ev.ret rfl
        · replace H := H.2 hc
          refine Ev.steps 5 (pc' := 75) (L' := [some (.ref 59), some (.int x1), some (.int x2), some (.int (((1 + 0) + 0) + 1))]) (st' := [.int (((1 + 0) + 0) + 1)]) rfl ?_
          subst H
          exact Ev.ret rfl
      · replace H := H.2 hc
        refine Ev.steps 11 (pc' := 61) (L' := [some (.ref 59), some (.int x1), some (.int x2), some (.int ((1 + 0) + 1))]) (st' := [.int 1, .int (x2 - 1), .int x1, .ref 59, .int ((1 + 0) + 1)]) rfl ?_
        refine Ev.call (y := 238) (args := [.ref 59, .int x1, .int (x2 - 1), .int 1]) (rest := [.int ((1 + 0) + 1)]) (r := some (.int (F238 M x1 (x2 - 1) 1))) rfl (s238 H.1) ?_
        replace H := H.2
        show Ev 4 239 64 [some (.ref 59), some (.int x1), some (.int x2), some (.int ((1 + 0) + 1))] [.int (F238 M x1 (x2 - 1) 1), .int ((1 + 0) + 1)] _ _
        refine Ev.steps 1 (pc' := if (F238 M x1 (x2 - 1) 1) ≤ 0 then 71 else 67) (L' := [some (.ref 59), some (.int x1), some (.int x2), some (.int ((1 + 0) + 1))]) (st' := [.int ((1 + 0) + 1)]) rfl ?_
        refine Ev_ite (fun hc => ?_) (fun hc => ?_)
        · replace H := H.1 hc
          refine Ev.steps 4 (pc' := 75) (L' := [some (.ref 59), some (.int x1), some (.int x2), some (.int (((1 + 0) + 1) + 0))]) (st' := [.int (((1 + 0) + 1) + 0)]) rfl ?_
          subst H
          exact Ev.ret rfl
        · replace H := H.2 hc
          refine Ev.steps 5 (pc' := 75) (L' := [some (.ref 59), some (.int x1), some (.int x2), some (.int (((1 + 0) + 1) + 1))]) (st' := [.int (((1 + 0) + 1) + 1)]) rfl ?_
          subst H
          exact Ev.ret rfl
    · replace H := H.2 hc
      refine Ev.steps 9 (pc' := 41) (L' := [some (.ref 59), some (.int x1), some (.int x2), some (.int (1 + 1))]) (st' := [.int 1, .int x2, .int x1, .ref 59, .int (1 + 1)]) rfl ?_
      refine Ev.call (y := 238) (args := [.ref 59, .int x1, .int x2, .int 1]) (rest := [.int (1 + 1)]) (r := some (.int (F238 M x1 x2 1))) rfl (s238 H.1) ?_
      replace H := H.2
      show Ev 4 239 44 [some (.ref 59), some (.int x1), some (.int x2), some (.int (1 + 1))] [.int (F238 M x1 x2 1), .int (1 + 1)] _ _
      refine Ev.steps 1 (pc' := if (F238 M x1 x2 1) ≤ 0 then 51 else 47) (L' := [some (.ref 59), some (.int x1), some (.int x2), some (.int (1 + 1))]) (st' := [.int (1 + 1)]) rfl ?_
      refine Ev_ite (fun hc => ?_) (fun hc => ?_)
      · replace H := H.1 hc
        refine Ev.steps 10 (pc' := 61) (L' := [some (.ref 59), some (.int x1), some (.int x2), some (.int ((1 + 1) + 0))]) (st' := [.int 1, .int (x2 - 1), .int x1, .ref 59, .int ((1 + 1) + 0)]) rfl ?_
        refine Ev.call (y := 238) (args := [.ref 59, .int x1, .int (x2 - 1), .int 1]) (rest := [.int ((1 + 1) + 0)]) (r := some (.int (F238 M x1 (x2 - 1) 1))) rfl (s238 H.1) ?_
        replace H := H.2
        show Ev 4 239 64 [some (.ref 59), some (.int x1), some (.int x2), some (.int ((1 + 1) + 0))] [.int (F238 M x1 (x2 - 1) 1), .int ((1 + 1) + 0)] _ _
        refine Ev.steps 1 (pc' := if (F238 M x1 (x2 - 1) 1) ≤ 0 then 71 else 67) (L' := [some (.ref 59), some (.int x1), some (.int x2), some (.int ((1 + 1) + 0))]) (st' := [.int ((1 + 1) + 0)]) rfl ?_
        refine Ev_ite (fun hc => ?_) (fun hc => ?_)
        · replace H := H.1 hc
          refine Ev.steps 4 (pc' := 75) (L' := [some (.ref 59), some (.int x1), some (.int x2), some (.int (((1 + 1) + 0) + 0))]) (st' := [.int (((1 + 1) + 0) + 0)]) rfl ?_
          subst H
          exact Ev.ret rfl
        · replace H := H.2 hc
          refine Ev.steps 5 (pc' := 75) (L' := [some (.ref 59), some (.int x1), some (.int x2), some (.int (((1 + 1) + 0) + 1))]) (st' := [.int (((1 + 1) + 0) + 1)]) rfl ?_
          subst H
          exact Ev.ret rfl
      · replace H := H.2 hc
        refine Ev.steps 11 (pc' := 61) (L' := [some (.ref 59), some (.int x1), some (.int x2), some (.int ((1 + 1) + 1))]) (st' := [.int 1, .int (x2 - 1), .int x1, .ref 59, .int ((1 + 1) + 1)]) rfl ?_
        refine Ev.call (y := 238) (args := [.ref 59, .int x1, .int (x2 - 1), .int 1]) (rest := [.int ((1 + 1) + 1)]) (r := some (.int (F238 M x1 (x2 - 1) 1))) rfl (s238 H.1) ?_
        replace H := H.2
        show Ev 4 239 64 [some (.ref 59), some (.int x1), some (.int x2), some (.int ((1 + 1) + 1))] [.int (F238 M x1 (x2 - 1) 1), .int ((1 + 1) + 1)] _ _
        refine Ev.steps 1 (pc' := if (F238 M x1 (x2 - 1) 1) ≤ 0 then 71 else 67) (L' := [some (.ref 59), some (.int x1), some (.int x2), some (.int ((1 + 1) + 1))]) (st' := [.int ((1 + 1) + 1)]) rfl ?_
        refine Ev_ite (fun hc => ?_) (fun hc => ?_)
        · replace H := H.1 hc
          refine Ev.steps 4 (pc' := 75) (L' := [some (.ref 59), some (.int x1), some (.int x2), some (.int (((1 + 1) + 1) + 0))]) (st' := [.int (((1 + 1) + 1) + 0)]) rfl ?_
          subst H
          exact Ev.ret rfl
        · replace H := H.2 hc
          refine Ev.steps 5 (pc' := 75) (L' := [some (.ref 59), some (.int x1), some (.int x2), some (.int (((1 + 1) + 1) + 1))]) (st' := [.int (((1 + 1) + 1) + 1)]) rfl ?_
          subst H
          exact Ev.ret rfl

def F239 (M : Mem) (x1 : Int32) (x2 : Int32) : Int32 := (if (F238 M x1 x2 0) ≤ 0 then (if (F238 M (x1 - 1) x2 0) ≤ 0 then (if (F238 M x1 x2 1) ≤ 0 then (if (F238 M x1 (x2 - 1) 1) ≤ 0 then (((0 + 0) + 0) + 0) else (((0 + 0) + 0) + 1)) else (if (F238 M x1 (x2 - 1) 1) ≤ 0 then (((0 + 0) + 1) + 0) else (((0 + 0) + 1) + 1))) else (if (F238 M x1 x2 1) ≤ 0 then (if (F238 M x1 (x2 - 1) 1) ≤ 0 then (((0 + 1) + 0) + 0) else (((0 + 1) + 0) + 1)) else (if (F238 M x1 (x2 - 1) 1) ≤ 0 then (((0 + 1) + 1) + 0) else (((0 + 1) + 1) + 1)))) else (if (F238 M (x1 - 1) x2 0) ≤ 0 then (if (F238 M x1 x2 1) ≤ 0 then (if (F238 M x1 (x2 - 1) 1) ≤ 0 then (((1 + 0) + 0) + 0) else (((1 + 0) + 0) + 1)) else (if (F238 M x1 (x2 - 1) 1) ≤ 0 then (((1 + 0) + 1) + 0) else (((1 + 0) + 1) + 1))) else (if (F238 M x1 x2 1) ≤ 0 then (if (F238 M x1 (x2 - 1) 1) ≤ 0 then (((1 + 1) + 0) + 0) else (((1 + 1) + 0) + 1)) else (if (F238 M x1 (x2 - 1) 1) ≤ 0 then (((1 + 1) + 1) + 0) else (((1 + 1) + 1) + 1)))))
def P239 (M : Mem) (x1 : Int32) (x2 : Int32) : Prop := (P238 M x1 x2 0 ∧ (((F238 M x1 x2 0) ≤ 0 → (P238 M (x1 - 1) x2 0 ∧ (((F238 M (x1 - 1) x2 0) ≤ 0 → (P238 M x1 x2 1 ∧ (((F238 M x1 x2 1) ≤ 0 → (P238 M x1 (x2 - 1) 1)) ∧ (¬ (F238 M x1 x2 1) ≤ 0 → (P238 M x1 (x2 - 1) 1))))) ∧ (¬ (F238 M (x1 - 1) x2 0) ≤ 0 → (P238 M x1 x2 1 ∧ (((F238 M x1 x2 1) ≤ 0 → (P238 M x1 (x2 - 1) 1)) ∧ (¬ (F238 M x1 x2 1) ≤ 0 → (P238 M x1 (x2 - 1) 1)))))))) ∧ (¬ (F238 M x1 x2 0) ≤ 0 → (P238 M (x1 - 1) x2 0 ∧ (((F238 M (x1 - 1) x2 0) ≤ 0 → (P238 M x1 x2 1 ∧ (((F238 M x1 x2 1) ≤ 0 → (P238 M x1 (x2 - 1) 1)) ∧ (¬ (F238 M x1 x2 1) ≤ 0 → (P238 M x1 (x2 - 1) 1))))) ∧ (¬ (F238 M (x1 - 1) x2 0) ≤ 0 → (P238 M x1 x2 1 ∧ (((F238 M x1 x2 1) ≤ 0 → (P238 M x1 (x2 - 1) 1)) ∧ (¬ (F238 M x1 x2 1) ≤ 0 → (P238 M x1 (x2 - 1) 1))))))))))
theorem s239 {E : gw_N} {M : Mem} {x1 : Int32} {x2 : Int32} (H : P239 M x1 x2) : Rn 239 [.ref 59, .int x1, .int x2] (hs E M) (some (.int (F239 M x1 x2))) (hs E M) :=
  w239_0 (⟨H.1, ⟨fun h0 => ⟨(H.2.1 h0).1, ⟨fun h1 => ⟨((H.2.1 h0).2.1 h1).1, ⟨fun h2 => ⟨(((H.2.1 h0).2.1 h1).2.1 h2), ⟨fun h3 => gw_reteq ((((if_pos h0).trans (if_pos h1)).trans (if_pos h2)).trans (if_pos h3)), fun h3 => gw_reteq ((((if_pos h0).trans (if_pos h1)).trans (if_pos h2)).trans (if_neg h3))⟩⟩, fun h2 => ⟨(((H.2.1 h0).2.1 h1).2.2 h2), ⟨fun h3 => gw_reteq ((((if_pos h0).trans (if_pos h1)).trans (if_neg h2)).trans (if_pos h3)), fun h3 => gw_reteq ((((if_pos h0).trans (if_pos h1)).trans (if_neg h2)).trans (if_neg h3))⟩⟩⟩⟩, fun h1 => ⟨((H.2.1 h0).2.2 h1).1, ⟨fun h2 => ⟨(((H.2.1 h0).2.2 h1).2.1 h2), ⟨fun h3 => gw_reteq ((((if_pos h0).trans (if_neg h1)).trans (if_pos h2)).trans (if_pos h3)), fun h3 => gw_reteq ((((if_pos h0).trans (if_neg h1)).trans (if_pos h2)).trans (if_neg h3))⟩⟩, fun h2 => ⟨(((H.2.1 h0).2.2 h1).2.2 h2), ⟨fun h3 => gw_reteq ((((if_pos h0).trans (if_neg h1)).trans (if_neg h2)).trans (if_pos h3)), fun h3 => gw_reteq ((((if_pos h0).trans (if_neg h1)).trans (if_neg h2)).trans (if_neg h3))⟩⟩⟩⟩⟩⟩, fun h0 => ⟨(H.2.2 h0).1, ⟨fun h1 => ⟨((H.2.2 h0).2.1 h1).1, ⟨fun h2 => ⟨(((H.2.2 h0).2.1 h1).2.1 h2), ⟨fun h3 => gw_reteq ((((if_neg h0).trans (if_pos h1)).trans (if_pos h2)).trans (if_pos h3)), fun h3 => gw_reteq ((((if_neg h0).trans (if_pos h1)).trans (if_pos h2)).trans (if_neg h3))⟩⟩, fun h2 => ⟨(((H.2.2 h0).2.1 h1).2.2 h2), ⟨fun h3 => gw_reteq ((((if_neg h0).trans (if_pos h1)).trans (if_neg h2)).trans (if_pos h3)), fun h3 => gw_reteq ((((if_neg h0).trans (if_pos h1)).trans (if_neg h2)).trans (if_neg h3))⟩⟩⟩⟩, fun h1 => ⟨((H.2.2 h0).2.2 h1).1, ⟨fun h2 => ⟨(((H.2.2 h0).2.2 h1).2.1 h2), ⟨fun h3 => gw_reteq ((((if_neg h0).trans (if_neg h1)).trans (if_pos h2)).trans (if_pos h3)), fun h3 => gw_reteq ((((if_neg h0).trans (if_neg h1)).trans (if_pos h2)).trans (if_neg h3))⟩⟩, fun h2 => ⟨(((H.2.2 h0).2.2 h1).2.2 h2), ⟨fun h3 => gw_reteq ((((if_neg h0).trans (if_neg h1)).trans (if_neg h2)).trans (if_pos h3)), fun h3 => gw_reteq ((((if_neg h0).trans (if_neg h1)).trans (if_neg h2)).trans (if_neg h3))⟩⟩⟩⟩⟩⟩⟩⟩)
-- 248 GlassWiresModel isCell (I)Z
set_option maxRecDepth 20000 in
theorem w248_0 {E : gw_N} {M : Mem} {res : Option Value × gw_H} {x1 : Int32} (H : (∃ (M1 : Mem), Rn 247 [.ref 59] (hs E M) none (hs E M1) ∧ (((F209 M1 (Int32.toInt64 x1) 0 (Int32.toInt64 ((F243 M1) - 1))) = 0 → res = (some (.int 0), hs E M1)) ∧ (¬ (F209 M1 (Int32.toInt64 x1) 0 (Int32.toInt64 ((F243 M1) - 1))) = 0 → (inb x1 64 ∧ ((((M1 69) (x1 : Int32).toNatClampNeg) = x1 → res = (some (.int 1), hs E M1)) ∧ (¬ ((M1 69) (x1 : Int32).toNatClampNeg) = x1 → res = (some (.int 0), hs E M1)))))))) : Ev 4 248 0 [some (.ref 59), some (.int x1)] [] (hs E M) res := by
  refine Ev.steps 1 (pc' := 1) (L' := [some (.ref 59), some (.int x1)]) (st' := [.ref 59]) rfl ?_
  obtain ⟨M1, hr1, H⟩ := H
  refine Ev.call (y := 247) (args := [.ref 59]) (rest := []) (r := none) rfl hr1 ?_
  show Ev 4 248 4 [some (.ref 59), some (.int x1)] [] _ _
  refine Ev.steps 4 (pc' := 8) (L' := [some (.ref 59), some (.int x1)]) (st' := [.ref 59, .long 0, .long (Int32.toInt64 x1)]) rfl ?_
  refine Ev.call (y := 243) (args := [.ref 59]) (rest := [.long 0, .long (Int32.toInt64 x1)]) (r := some (.int (F243 M1))) rfl (s243) ?_
  show Ev 4 248 11 [some (.ref 59), some (.int x1)] [.int (F243 M1), .long 0, .long (Int32.toInt64 x1)] _ _
  refine Ev.steps 3 (pc' := 14) (L' := [some (.ref 59), some (.int x1)]) (st' := [.long (Int32.toInt64 ((F243 M1) - 1)), .long 0, .long (Int32.toInt64 x1)]) rfl ?_
  refine Ev.call (y := 209) (args := [.long (Int32.toInt64 x1), .long 0, .long (Int32.toInt64 ((F243 M1) - 1))]) (rest := []) (r := some (.int (F209 M1 (Int32.toInt64 x1) 0 (Int32.toInt64 ((F243 M1) - 1))))) rfl (s209) ?_
  show Ev 4 248 17 [some (.ref 59), some (.int x1)] [.int (F209 M1 (Int32.toInt64 x1) 0 (Int32.toInt64 ((F243 M1) - 1)))] _ _
  refine Ev.steps 1 (pc' := if (F209 M1 (Int32.toInt64 x1) 0 (Int32.toInt64 ((F243 M1) - 1))) = 0 then 34 else 20) (L' := [some (.ref 59), some (.int x1)]) (st' := []) rfl ?_
  refine Ev_ite (fun hc => ?_) (fun hc => ?_)
  · replace H := H.1 hc
    refine Ev.steps 1 (pc' := 35) (L' := [some (.ref 59), some (.int x1)]) (st' := [.int 0]) rfl ?_
    subst H
    exact Ev.ret rfl
  · replace H := H.2 hc
    refine Ev.steps 3 (pc' := 25) (L' := [some (.ref 59), some (.int x1)]) (st' := [.int x1, .ref 69]) rfl ?_
    refine Ev.rd (i := x1) (n := 64) (pc' := 26) (L' := [some (.ref 59), some (.int x1)]) (st' := [.int ((M1 69) (x1 : Int32).toNatClampNeg)]) H.1 rfl ?_
    replace H := H.2
    refine Ev.steps 2 (pc' := if ((M1 69) (x1 : Int32).toNatClampNeg) = x1 then 30 else 34) (L' := [some (.ref 59), some (.int x1)]) (st' := []) rfl ?_
    refine Ev_ite (fun hc => ?_) (fun hc => ?_)
    · replace H := H.1 hc
      refine Ev.steps 2 (pc' := 35) (L' := [some (.ref 59), some (.int x1)]) (st' := [.int 1]) rfl ?_
      subst H
      exact Ev.ret rfl
    · replace H := H.2 hc
      refine Ev.steps 1 (pc' := 35) (L' := [some (.ref 59), some (.int x1)]) (st' := [.int 0]) rfl ?_
      subst H
      exact Ev.ret rfl

-- 252 GlassWiresModel cell (II)I
set_option maxRecDepth 20000 in
theorem w252_0 {E : gw_N} {M : Mem} {res : Option Value × gw_H} {x1 : Int32} {x2 : Int32} (H : (((F244 M x1 x2) = 0 → res = (some (.int (-101)), hs E M)) ∧ (¬ (F244 M x1 x2) = 0 → (∃ (M1 : Mem), Rn 247 [.ref 59] (hs E M) none (hs E M1) ∧ (inb ((((M1 59) 0) * x2) + x1) 64 ∧ res = (some (.int ((M1 69) (((((M1 59) 0) * x2) + x1) : Int32).toNatClampNeg)), hs E M1)))))) : Ev 4 252 0 [some (.ref 59), some (.int x1), some (.int x2)] [] (hs E M) res := by
  refine Ev.steps 3 (pc' := 3) (L' := [some (.ref 59), some (.int x1), some (.int x2)]) (st' := [.int x2, .int x1, .ref 59]) rfl ?_
  refine Ev.call (y := 244) (args := [.ref 59, .int x1, .int x2]) (rest := []) (r := some (.int (F244 M x1 x2))) rfl (s244) ?_
  show Ev 4 252 6 [some (.ref 59), some (.int x1), some (.int x2)] [.int (F244 M x1 x2)] _ _
  refine Ev.steps 1 (pc' := if (F244 M x1 x2) = 0 then 9 else 12) (L' := [some (.ref 59), some (.int x1), some (.int x2)]) (st' := []) rfl ?_
  refine Ev_ite (fun hc => ?_) (fun hc => ?_)
  · replace H := H.1 hc
    refine Ev.steps 1 (pc' := 11) (L' := [some (.ref 59), some (.int x1), some (.int x2)]) (st' := [.int (-101)]) rfl ?_
    subst H
    exact Ev.ret rfl
  · replace H := H.2 hc
    refine Ev.steps 1 (pc' := 13) (L' := [some (.ref 59), some (.int x1), some (.int x2)]) (st' := [.ref 59]) rfl ?_
    obtain ⟨M1, hr1, H⟩ := H
    refine Ev.call (y := 247) (args := [.ref 59]) (rest := []) (r := none) rfl hr1 ?_
    show Ev 4 252 16 [some (.ref 59), some (.int x1), some (.int x2)] [] _ _
    refine Ev.steps 8 (pc' := 28) (L' := [some (.ref 59), some (.int x1), some (.int x2)]) (st' := [.int ((((M1 59) 0) * x2) + x1), .ref 69]) rfl ?_
    refine Ev.rd (i := ((((M1 59) 0) * x2) + x1)) (n := 64) (pc' := 29) (L' := [some (.ref 59), some (.int x1), some (.int x2)]) (st' := [.int ((M1 69) (((((M1 59) 0) * x2) + x1) : Int32).toNatClampNeg)]) H.1 rfl ?_
    replace H := H.2
    subst H
    exact Ev.ret rfl

-- 255 GlassWiresModel listCells ()V
set_option maxRecDepth 20000 in
theorem w255_0 {E : gw_N} {M : Mem} {res : Option Value × gw_H}  (H : (∃ (M1 : Mem), Rn 247 [.ref 59] (hs E M) none (hs E M1) ∧ Ev 4 255 11 [some (.ref 59), some (.int 0)] [] (hs E (up M1 59 (upd (M1 59) 15 0))) res)) : Ev 4 255 0 [some (.ref 59), none] [] (hs E M) res := by
  refine Ev.steps 1 (pc' := 1) (L' := [some (.ref 59), none]) (st' := [.ref 59]) rfl ?_
  obtain ⟨M1, hr1, H⟩ := H
  refine Ev.call (y := 247) (args := [.ref 59]) (rest := []) (r := none) rfl hr1 ?_
  show Ev 4 255 4 [some (.ref 59), none] [] _ _
  refine Ev.steps 2 (pc' := 6) (L' := [some (.ref 59), none]) (st' := [.int 0, .ref 59]) rfl ?_
  refine Ev.mem (a := 59) (g := (upd (M1 59) 15 0)) (pc' := 9) (L' := [some (.ref 59), none]) (st' := []) (by decide) rfl ?_
  refine Ev.steps 2 (pc' := 11) (L' := [some (.ref 59), some (.int 0)]) (st' := []) rfl ?_
  exact Ev.weak [some (.ref 59), some (.int 0)] (gw_leb_le ⟨rfl, rfl, trivial⟩) H

set_option maxRecDepth 20000 in
theorem w255_11 {E : gw_N} {M : Mem} {res : Option Value × gw_H} {x1 : Int32} (H : (((F243 M) ≤ x1 → res = (none, hs E M)) ∧ (¬ (F243 M) ≤ x1 → (inb x1 64 ∧ ((((M 69) (x1 : Int32).toNatClampNeg) = x1 → (inb ((M 59) 15) 64 ∧ Ev 4 255 11 [some (.ref 59), some (.int (x1 + 1))] [] (hs E (up (up M 70 (upd (M 70) (((M 59) 15) : Int32).toNatClampNeg x1)) 59 (upd (M 59) 15 (((M 59) 15) + 1)))) res)) ∧ (¬ ((M 69) (x1 : Int32).toNatClampNeg) = x1 → Ev 4 255 11 [some (.ref 59), some (.int (x1 + 1))] [] (hs E M) res)))))) : Ev 4 255 11 [some (.ref 59), some (.int x1)] [] (hs E M) res := by
  refine Ev.steps 2 (pc' := 13) (L' := [some (.ref 59), some (.int x1)]) (st' := [.ref 59, .int x1]) rfl ?_
  refine Ev.call (y := 243) (args := [.ref 59]) (rest := [.int x1]) (r := some (.int (F243 M))) rfl (s243) ?_
  show Ev 4 255 16 [some (.ref 59), some (.int x1)] [.int (F243 M), .int x1] _ _
  refine Ev.steps 1 (pc' := if (F243 M) ≤ x1 then 55 else 19) (L' := [some (.ref 59), some (.int x1)]) (st' := []) rfl ?_
  refine Ev_ite (fun hc => ?_) (fun hc => ?_)
  · replace H := H.1 hc
    subst H
    exact Ev.ret rfl
  · replace H := H.2 hc
    refine Ev.steps 3 (pc' := 24) (L' := [some (.ref 59), some (.int x1)]) (st' := [.int x1, .ref 69]) rfl ?_
    refine Ev.rd (i := x1) (n := 64) (pc' := 25) (L' := [some (.ref 59), some (.int x1)]) (st' := [.int ((M 69) (x1 : Int32).toNatClampNeg)]) H.1 rfl ?_
    replace H := H.2
    refine Ev.steps 2 (pc' := if ((M 69) (x1 : Int32).toNatClampNeg) = x1 then 29 else 49) (L' := [some (.ref 59), some (.int x1)]) (st' := []) rfl ?_
    refine Ev_ite (fun hc => ?_) (fun hc => ?_)
    · replace H := H.1 hc
      refine Ev.steps 5 (pc' := 38) (L' := [some (.ref 59), some (.int x1)]) (st' := [.int x1, .int ((M 59) 15), .ref 70]) rfl ?_
      refine Ev.wr (a := 70) (g := (upd (M 70) (((M 59) 15) : Int32).toNatClampNeg x1)) (i := ((M 59) 15)) (n := 64) (pc' := 39) (L' := [some (.ref 59), some (.int x1)]) (st' := []) (by decide) H.1 rfl ?_
      replace H := H.2
      refine Ev.steps 5 (pc' := 46) (L' := [some (.ref 59), some (.int x1)]) (st' := [.int (((M 59) 15) + 1), .ref 59]) rfl ?_
      refine Ev.mem (a := 59) (g := (upd (M 59) 15 (((M 59) 15) + 1))) (pc' := 49) (L' := [some (.ref 59), some (.int x1)]) (st' := []) (by decide) rfl ?_
      refine Ev.steps 2 (pc' := 11) (L' := [some (.ref 59), some (.int (x1 + 1))]) (st' := []) rfl ?_
      exact Ev.weak [some (.ref 59), some (.int (x1 + 1))] (gw_leb_le ⟨rfl, rfl, trivial⟩) H
    · replace H := H.2 hc
      refine Ev.steps 2 (pc' := 11) (L' := [some (.ref 59), some (.int (x1 + 1))]) (st' := []) rfl ?_
      exact Ev.weak [some (.ref 59), some (.int (x1 + 1))] (gw_leb_le ⟨rfl, rfl, trivial⟩) H

-- 271 GlassWiresModel runOver ()V
set_option maxRecDepth 20000 in
theorem w271_0 {E : gw_N} {M : Mem} {res : Option Value × gw_H}  (H : (∃ (M1 : Mem), Rn 247 [.ref 59] (hs E M) none (hs E M1) ∧ Ev 4 271 6 [some (.ref 59), some (.int 0), none, none, none] [] (hs E M1) res)) : Ev 4 271 0 [some (.ref 59), none, none, none, none] [] (hs E M) res := by
  refine Ev.steps 1 (pc' := 1) (L' := [some (.ref 59), none, none, none, none]) (st' := [.ref 59]) rfl ?_
  obtain ⟨M1, hr1, H⟩ := H
  refine Ev.call (y := 247) (args := [.ref 59]) (rest := []) (r := none) rfl hr1 ?_
  show Ev 4 271 4 [some (.ref 59), none, none, none, none] [] _ _
  refine Ev.steps 2 (pc' := 6) (L' := [some (.ref 59), some (.int 0), none, none, none]) (st' := []) rfl ?_
  exact Ev.weak [some (.ref 59), some (.int 0), none, none, none] (gw_leb_le ⟨rfl, rfl, trivial⟩) H

set_option maxRecDepth 20000 in
theorem w271_6 {E : gw_N} {M : Mem} {res : Option Value × gw_H} {x1 : Int32} (H : (((F243 M) ≤ x1 → Ev 4 271 40 [some (.ref 59), some (.int 0), none, none, none] [] (hs E M) res) ∧ (¬ (F243 M) ≤ x1 → (∃ (r1 : Int32), Rn 267 [.ref 59, .int x1] (hs E M) (some (.int r1)) (hs E M) ∧ (inb x1 64 ∧ (inb x1 64 ∧ Ev 4 271 6 [some (.ref 59), some (.int (x1 + 1)), none, none, none] [] (hs E (up (up M 81 (upd (M 81) (x1 : Int32).toNatClampNeg r1)) 82 (upd (M 82) (x1 : Int32).toNatClampNeg (0 &&& 1)))) res)))))) : Ev 4 271 6 [some (.ref 59), some (.int x1), none, none, none] [] (hs E M) res := by
  refine Ev.steps 2 (pc' := 8) (L' := [some (.ref 59), some (.int x1), none, none, none]) (st' := [.ref 59, .int x1]) rfl ?_
  refine Ev.call (y := 243) (args := [.ref 59]) (rest := [.int x1]) (r := some (.int (F243 M))) rfl (s243) ?_
  show Ev 4 271 11 [some (.ref 59), some (.int x1), none, none, none] [.int (F243 M), .int x1] _ _
  refine Ev.steps 1 (pc' := if (F243 M) ≤ x1 then 38 else 14) (L' := [some (.ref 59), some (.int x1), none, none, none]) (st' := []) rfl ?_
  refine Ev_ite (fun hc => ?_) (fun hc => ?_)
  · replace H := H.1 hc
    refine Ev.steps 2 (pc' := 40) (L' := [some (.ref 59), some (.int 0), none, none, none]) (st' := []) rfl ?_
    exact Ev.weak [some (.ref 59), some (.int 0), none, none, none] (gw_leb_le ⟨rfl, rfl, trivial⟩) H
  · replace H := H.2 hc
    refine Ev.steps 5 (pc' := 21) (L' := [some (.ref 59), some (.int x1), none, none, none]) (st' := [.int x1, .ref 59, .int x1, .ref 81]) rfl ?_
    obtain ⟨r1, hr1, H⟩ := H
    refine Ev.call (y := 267) (args := [.ref 59, .int x1]) (rest := [.int x1, .ref 81]) (r := (some (.int r1))) rfl hr1 ?_
    show Ev 4 271 24 [some (.ref 59), some (.int x1), none, none, none] [.int r1, .int x1, .ref 81] _ _
    refine Ev.wr (a := 81) (g := (upd (M 81) (x1 : Int32).toNatClampNeg r1)) (i := x1) (n := 64) (pc' := 25) (L' := [some (.ref 59), some (.int x1), none, none, none]) (st' := []) (by decide) H.1 rfl ?_
    replace H := H.2
    refine Ev.steps 4 (pc' := 31) (L' := [some (.ref 59), some (.int x1), none, none, none]) (st' := [.int 0, .int x1, .ref 82]) rfl ?_
    refine Ev.wr (a := 82) (g := (upd (M 82) (x1 : Int32).toNatClampNeg (0 &&& 1))) (i := x1) (n := 64) (pc' := 32) (L' := [some (.ref 59), some (.int x1), none, none, none]) (st' := []) (by decide) H.1 rfl ?_
    replace H := H.2
    refine Ev.steps 2 (pc' := 6) (L' := [some (.ref 59), some (.int (x1 + 1)), none, none, none]) (st' := []) rfl ?_
    exact Ev.weak [some (.ref 59), some (.int (x1 + 1)), none, none, none] (gw_leb_le ⟨rfl, rfl, trivial⟩) H

set_option maxRecDepth 20000 in
theorem w271_40 {E : gw_N} {M : Mem} {res : Option Value × gw_H} {x1 : Int32} (H : (((F243 M) ≤ x1 → Ev 4 271 151 [some (.ref 59), some (.int 0), none, none, none] [] (hs E M) res) ∧ (¬ (F243 M) ≤ x1 → Ev 4 271 50 [some (.ref 59), some (.int x1), some (.int 0), none, none] [] (hs E M) res))) : Ev 4 271 40 [some (.ref 59), some (.int x1), none, none, none] [] (hs E M) res := by
  refine Ev.steps 2 (pc' := 42) (L' := [some (.ref 59), some (.int x1), none, none, none]) (st' := [.ref 59, .int x1]) rfl ?_
  refine Ev.call (y := 243) (args := [.ref 59]) (rest := [.int x1]) (r := some (.int (F243 M))) rfl (s243) ?_
  show Ev 4 271 45 [some (.ref 59), some (.int x1), none, none, none] [.int (F243 M), .int x1] _ _
  refine Ev.steps 1 (pc' := if (F243 M) ≤ x1 then 149 else 48) (L' := [some (.ref 59), some (.int x1), none, none, none]) (st' := []) rfl ?_
  refine Ev_ite (fun hc => ?_) (fun hc => ?_)
  · replace H := H.1 hc
    refine Ev.steps 2 (pc' := 151) (L' := [some (.ref 59), some (.int 0), none, none, none]) (st' := []) rfl ?_
    exact Ev.weak [some (.ref 59), some (.int 0), none, none, none] (gw_leb_le ⟨rfl, rfl, trivial⟩) H
  · replace H := H.2 hc
    refine Ev.steps 2 (pc' := 50) (L' := [some (.ref 59), some (.int x1), some (.int 0), none, none]) (st' := []) rfl ?_
    exact Ev.weak [some (.ref 59), some (.int x1), some (.int 0), none, none] (gw_leb_le ⟨rfl, rfl, rfl, trivial⟩) H

set_option maxRecDepth 20000 in
theorem w271_151 {E : gw_N} {M : Mem} {res : Option Value × gw_H} {x1 : Int32} (H : (((F243 M) ≤ x1 → res = (none, hs E M)) ∧ (¬ (F243 M) ≤ x1 → (inb x1 64 ∧ ((((M 82) (x1 : Int32).toNatClampNeg) = 0 → Ev 4 271 151 [some (.ref 59), some (.int (x1 + 1)), none, none, none] [] (hs E M) res) ∧ (¬ ((M 82) (x1 : Int32).toNatClampNeg) = 0 → (inb x1 64 ∧ (∃ (r1 : Int32) (M1 : Mem), Rn 272 [.ref 59, .int x1, .int (((M 81) (x1 : Int32).toNatClampNeg) - ((M 59) 22))] (hs E M) (some (.int r1)) (hs E M1) ∧ Ev 4 271 151 [some (.ref 59), some (.int (x1 + 1)), none, none, none] [] (hs E M1) res)))))))) : Ev 4 271 151 [some (.ref 59), some (.int x1), none, none, none] [] (hs E M) res := by
  refine Ev.steps 2 (pc' := 153) (L' := [some (.ref 59), some (.int x1), none, none, none]) (st' := [.ref 59, .int x1]) rfl ?_
  refine Ev.call (y := 243) (args := [.ref 59]) (rest := [.int x1]) (r := some (.int (F243 M))) rfl (s243) ?_
  show Ev 4 271 156 [some (.ref 59), some (.int x1), none, none, none] [.int (F243 M), .int x1] _ _
  refine Ev.steps 1 (pc' := if (F243 M) ≤ x1 then 191 else 159) (L' := [some (.ref 59), some (.int x1), none, none, none]) (st' := []) rfl ?_
  refine Ev_ite (fun hc => ?_) (fun hc => ?_)
  · replace H := H.1 hc
    subst H
    exact Ev.ret rfl
  · replace H := H.2 hc
    refine Ev.steps 3 (pc' := 164) (L' := [some (.ref 59), some (.int x1), none, none, none]) (st' := [.int x1, .ref 82]) rfl ?_
    refine Ev.rd (i := x1) (n := 64) (pc' := 165) (L' := [some (.ref 59), some (.int x1), none, none, none]) (st' := [.int ((M 82) (x1 : Int32).toNatClampNeg)]) H.1 rfl ?_
    replace H := H.2
    refine Ev.steps 1 (pc' := if ((M 82) (x1 : Int32).toNatClampNeg) = 0 then 185 else 168) (L' := [some (.ref 59), some (.int x1), none, none, none]) (st' := []) rfl ?_
    refine Ev_ite (fun hc => ?_) (fun hc => ?_)
    · replace H := H.1 hc
      refine Ev.steps 2 (pc' := 151) (L' := [some (.ref 59), some (.int (x1 + 1)), none, none, none]) (st' := []) rfl ?_
      exact Ev.weak [some (.ref 59), some (.int (x1 + 1)), none, none, none] (gw_leb_le ⟨rfl, rfl, trivial⟩) H
    · replace H := H.2 hc
      refine Ev.steps 5 (pc' := 175) (L' := [some (.ref 59), some (.int x1), none, none, none]) (st' := [.int x1, .ref 81, .int x1, .ref 59]) rfl ?_
      refine Ev.rd (i := x1) (n := 64) (pc' := 176) (L' := [some (.ref 59), some (.int x1), none, none, none]) (st' := [.int ((M 81) (x1 : Int32).toNatClampNeg), .int x1, .ref 59]) H.1 rfl ?_
      replace H := H.2
      refine Ev.steps 3 (pc' := 181) (L' := [some (.ref 59), some (.int x1), none, none, none]) (st' := [.int (((M 81) (x1 : Int32).toNatClampNeg) - ((M 59) 22)), .int x1, .ref 59]) rfl ?_
      obtain ⟨r1, M1, hr1, H⟩ := H
      refine Ev.call (y := 272) (args := [.ref 59, .int x1, .int (((M 81) (x1 : Int32).toNatClampNeg) - ((M 59) 22))]) (rest := []) (r := (some (.int r1))) rfl hr1 ?_
      show Ev 4 271 184 [some (.ref 59), some (.int x1), none, none, none] [.int r1] _ _
      refine Ev.steps 3 (pc' := 151) (L' := [some (.ref 59), some (.int (x1 + 1)), none, none, none]) (st' := []) rfl ?_
      exact Ev.weak [some (.ref 59), some (.int (x1 + 1)), none, none, none] (gw_leb_le ⟨rfl, rfl, trivial⟩) H

set_option maxRecDepth 20000 in
theorem w271_50 {E : gw_N} {M : Mem} {res : Option Value × gw_H} {x1 : Int32} {x2 : Int32} (H : ((2 ≤ x2 → Ev 4 271 40 [some (.ref 59), some (.int (x1 + 1)), none, none, none] [] (hs E M) res) ∧ (¬ 2 ≤ x2 → (P245 M x1 x2 ∧ (((F245 M x1 x2) = (-1) → Ev 4 271 50 [some (.ref 59), some (.int x1), some (.int (x2 + 1)), none, none] [] (hs E M) res) ∧ (¬ (F245 M x1 x2) = (-1) → (P246 M x1 x2 ∧ (inb x1 64 ∧ ((((M 82) (x1 : Int32).toNatClampNeg) = 0 → (P270 M x1 (F245 M x1 x2) (F246 M x1 x2) ∧ (((F270 M x1 (F245 M x1 x2) (F246 M x1 x2)) = 0 → (inb x1 64 ∧ (inb (F245 M x1 x2) 64 ∧ ((((upd (M 82) (x1 : Int32).toNatClampNeg (0 &&& 1)) ((F245 M x1 x2) : Int32).toNatClampNeg) = 0 → (P270 (up M 82 (upd (M 82) (x1 : Int32).toNatClampNeg (0 &&& 1))) (F245 M x1 x2) x1 (F246 M x1 x2) ∧ (((F270 (up M 82 (upd (M 82) (x1 : Int32).toNatClampNeg (0 &&& 1))) (F245 M x1 x2) x1 (F246 M x1 x2)) = 0 → (inb (F245 M x1 x2) 64 ∧ Ev 4 271 50 [some (.ref 59), some (.int x1), some (.int (x2 + 1)), none, none] [] (hs E (up M 82 (upd (upd (M 82) (x1 : Int32).toNatClampNeg (0 &&& 1)) ((F245 M x1 x2) : Int32).toNatClampNeg (0 &&& 1)))) res)) ∧ (¬ (F270 (up M 82 (upd (M 82) (x1 : Int32).toNatClampNeg (0 &&& 1))) (F245 M x1 x2) x1 (F246 M x1 x2)) = 0 → (inb (F245 M x1 x2) 64 ∧ Ev 4 271 50 [some (.ref 59), some (.int x1), some (.int (x2 + 1)), none, none] [] (hs E (up M 82 (upd (upd (M 82) (x1 : Int32).toNatClampNeg (0 &&& 1)) ((F245 M x1 x2) : Int32).toNatClampNeg (1 &&& 1)))) res))))) ∧ (¬ ((upd (M 82) (x1 : Int32).toNatClampNeg (0 &&& 1)) ((F245 M x1 x2) : Int32).toNatClampNeg) = 0 → (inb (F245 M x1 x2) 64 ∧ Ev 4 271 50 [some (.ref 59), some (.int x1), some (.int (x2 + 1)), none, none] [] (hs E (up M 82 (upd (upd (M 82) (x1 : Int32).toNatClampNeg (0 &&& 1)) ((F245 M x1 x2) : Int32).toNatClampNeg (1 &&& 1)))) res)))))) ∧ (¬ (F270 M x1 (F245 M x1 x2) (F246 M x1 x2)) = 0 → (inb x1 64 ∧ (inb (F245 M x1 x2) 64 ∧ ((((upd (M 82) (x1 : Int32).toNatClampNeg (1 &&& 1)) ((F245 M x1 x2) : Int32).toNatClampNeg) = 0 → (P270 (up M 82 (upd (M 82) (x1 : Int32).toNatClampNeg (1 &&& 1))) (F245 M x1 x2) x1 (F246 M x1 x2) ∧ (((F270 (up M 82 (upd (M 82) (x1 : Int32).toNatClampNeg (1 &&& 1))) (F245 M x1 x2) x1 (F246 M x1 x2)) = 0 → (inb (F245 M x1 x2) 64 ∧ Ev 4 271 50 [some (.ref 59), some (.int x1), some (.int (x2 + 1)), none, none] [] (hs E (up M 82 (upd (upd (M 82) (x1 : Int32).toNatClampNeg (1 &&& 1)) ((F245 M x1 x2) : Int32).toNatClampNeg (0 &&& 1)))) res)) ∧ (¬ (F270 (up M 82 (upd (M 82) (x1 : Int32).toNatClampNeg (1 &&& 1))) (F245 M x1 x2) x1 (F246 M x1 x2)) = 0 → (inb (F245 M x1 x2) 64 ∧ Ev 4 271 50 [some (.ref 59), some (.int x1), some (.int (x2 + 1)), none, none] [] (hs E (up M 82 (upd (upd (M 82) (x1 : Int32).toNatClampNeg (1 &&& 1)) ((F245 M x1 x2) : Int32).toNatClampNeg (1 &&& 1)))) res))))) ∧ (¬ ((upd (M 82) (x1 : Int32).toNatClampNeg (1 &&& 1)) ((F245 M x1 x2) : Int32).toNatClampNeg) = 0 → (inb (F245 M x1 x2) 64 ∧ Ev 4 271 50 [some (.ref 59), some (.int x1), some (.int (x2 + 1)), none, none] [] (hs E (up M 82 (upd (upd (M 82) (x1 : Int32).toNatClampNeg (1 &&& 1)) ((F245 M x1 x2) : Int32).toNatClampNeg (1 &&& 1)))) res))))))))) ∧ (¬ ((M 82) (x1 : Int32).toNatClampNeg) = 0 → (inb x1 64 ∧ (inb (F245 M x1 x2) 64 ∧ ((((upd (M 82) (x1 : Int32).toNatClampNeg (1 &&& 1)) ((F245 M x1 x2) : Int32).toNatClampNeg) = 0 → (P270 (up M 82 (upd (M 82) (x1 : Int32).toNatClampNeg (1 &&& 1))) (F245 M x1 x2) x1 (F246 M x1 x2) ∧ (((F270 (up M 82 (upd (M 82) (x1 : Int32).toNatClampNeg (1 &&& 1))) (F245 M x1 x2) x1 (F246 M x1 x2)) = 0 → (inb (F245 M x1 x2) 64 ∧ Ev 4 271 50 [some (.ref 59), some (.int x1), some (.int (x2 + 1)), none, none] [] (hs E (up M 82 (upd (upd (M 82) (x1 : Int32).toNatClampNeg (1 &&& 1)) ((F245 M x1 x2) : Int32).toNatClampNeg (0 &&& 1)))) res)) ∧ (¬ (F270 (up M 82 (upd (M 82) (x1 : Int32).toNatClampNeg (1 &&& 1))) (F245 M x1 x2) x1 (F246 M x1 x2)) = 0 → (inb (F245 M x1 x2) 64 ∧ Ev 4 271 50 [some (.ref 59), some (.int x1), some (.int (x2 + 1)), none, none] [] (hs E (up M 82 (upd (upd (M 82) (x1 : Int32).toNatClampNeg (1 &&& 1)) ((F245 M x1 x2) : Int32).toNatClampNeg (1 &&& 1)))) res))))) ∧ (¬ ((upd (M 82) (x1 : Int32).toNatClampNeg (1 &&& 1)) ((F245 M x1 x2) : Int32).toNatClampNeg) = 0 → (inb (F245 M x1 x2) 64 ∧ Ev 4 271 50 [some (.ref 59), some (.int x1), some (.int (x2 + 1)), none, none] [] (hs E (up M 82 (upd (upd (M 82) (x1 : Int32).toNatClampNeg (1 &&& 1)) ((F245 M x1 x2) : Int32).toNatClampNeg (1 &&& 1)))) res))))))))))))))) : Ev 4 271 50 [some (.ref 59), some (.int x1), some (.int x2), none, none] [] (hs E M) res := by
  refine Ev.steps 3 (pc' := if 2 ≤ x2 then 143 else 55) (L' := [some (.ref 59), some (.int x1), some (.int x2), none, none]) (st' := []) rfl ?_
  refine Ev_ite (fun hc => ?_) (fun hc => ?_)
  · replace H := H.1 hc
    refine Ev.steps 2 (pc' := 40) (L' := [some (.ref 59), some (.int (x1 + 1)), some (.int x2), none, none]) (st' := []) rfl ?_
    exact Ev.weak [some (.ref 59), some (.int (x1 + 1)), none, none, none] (gw_leb_le ⟨rfl, rfl, trivial⟩) H
  · replace H := H.2 hc
    refine Ev.steps 3 (pc' := 58) (L' := [some (.ref 59), some (.int x1), some (.int x2), none, none]) (st' := [.int x2, .int x1, .ref 59]) rfl ?_
    refine Ev.call (y := 245) (args := [.ref 59, .int x1, .int x2]) (rest := []) (r := some (.int (F245 M x1 x2))) rfl (s245 H.1) ?_
    replace H := H.2
    show Ev 4 271 61 [some (.ref 59), some (.int x1), some (.int x2), none, none] [.int (F245 M x1 x2)] _ _
    refine Ev.steps 4 (pc' := if (F245 M x1 x2) = (-1) then 137 else 67) (L' := [some (.ref 59), some (.int x1), some (.int x2), some (.int (F245 M x1 x2)), none]) (st' := []) rfl ?_
    refine Ev_ite (fun hc => ?_) (fun hc => ?_)
    · replace H := H.1 hc
      refine Ev.steps 2 (pc' := 50) (L' := [some (.ref 59), some (.int x1), some (.int (x2 + 1)), some (.int (F245 M x1 x2)), none]) (st' := []) rfl ?_
      exact Ev.weak [some (.ref 59), some (.int x1), some (.int (x2 + 1)), none, none] (gw_leb_le ⟨rfl, rfl, rfl, trivial⟩) H
    · replace H := H.2 hc
      refine Ev.steps 3 (pc' := 70) (L' := [some (.ref 59), some (.int x1), some (.int x2), some (.int (F245 M x1 x2)), none]) (st' := [.int x2, .int x1, .ref 59]) rfl ?_
      refine Ev.call (y := 246) (args := [.ref 59, .int x1, .int x2]) (rest := []) (r := some (.int (F246 M x1 x2))) rfl (s246 H.1) ?_
      replace H := H.2
      show Ev 4 271 73 [some (.ref 59), some (.int x1), some (.int x2), some (.int (F245 M x1 x2)), none] [.int (F246 M x1 x2)] _ _
      refine Ev.steps 7 (pc' := 85) (L' := [some (.ref 59), some (.int x1), some (.int x2), some (.int (F245 M x1 x2)), some (.int (F246 M x1 x2))]) (st' := [.int x1, .ref 82, .int x1, .ref 82]) rfl ?_
      refine Ev.rd (i := x1) (n := 64) (pc' := 86) (L' := [some (.ref 59), some (.int x1), some (.int x2), some (.int (F245 M x1 x2)), some (.int (F246 M x1 x2))]) (st' := [.int ((M 82) (x1 : Int32).toNatClampNeg), .int x1, .ref 82]) H.1 rfl ?_
      replace H := H.2
      refine Ev.steps 1 (pc' := if ((M 82) (x1 : Int32).toNatClampNeg) = 0 then 89 else 100) (L' := [some (.ref 59), some (.int x1), some (.int x2), some (.int (F245 M x1 x2)), some (.int (F246 M x1 x2))]) (st' := [.int x1, .ref 82]) rfl ?_
      refine Ev_ite (fun hc => ?_) (fun hc => ?_)
      · replace H := H.1 hc
        refine Ev.steps 4 (pc' := 94) (L' := [some (.ref 59), some (.int x1), some (.int x2), some (.int (F245 M x1 x2)), some (.int (F246 M x1 x2))]) (st' := [.int (F246 M x1 x2), .int (F245 M x1 x2), .int x1, .ref 59, .int x1, .ref 82]) rfl ?_
        refine Ev.call (y := 270) (args := [.ref 59, .int x1, .int (F245 M x1 x2), .int (F246 M x1 x2)]) (rest := [.int x1, .ref 82]) (r := some (.int (F270 M x1 (F245 M x1 x2) (F246 M x1 x2)))) rfl (s270 H.1) ?_
        replace H := H.2
        show Ev 4 271 97 [some (.ref 59), some (.int x1), some (.int x2), some (.int (F245 M x1 x2)), some (.int (F246 M x1 x2))] [.int (F270 M x1 (F245 M x1 x2) (F246 M x1 x2)), .int x1, .ref 82] _ _
        refine Ev.steps 1 (pc' := if (F270 M x1 (F245 M x1 x2) (F246 M x1 x2)) = 0 then 104 else 100) (L' := [some (.ref 59), some (.int x1), some (.int x2), some (.int (F245 M x1 x2)), some (.int (F246 M x1 x2))]) (st' := [.int x1, .ref 82]) rfl ?_
        refine Ev_ite (fun hc => ?_) (fun hc => ?_)
        · replace H := H.1 hc
          refine Ev.steps 1 (pc' := 105) (L' := [some (.ref 59), some (.int x1), some (.int x2), some (.int (F245 M x1 x2)), some (.int (F246 M x1 x2))]) (st' := [.int 0, .int x1, .ref 82]) rfl ?_
          refine Ev.wr (a := 82) (g := (upd (M 82) (x1 : Int32).toNatClampNeg (0 &&& 1))) (i := x1) (n := 64) (pc' := 106) (L' := [some (.ref 59), some (.int x1), some (.int x2), some (.int (F245 M x1 x2)), some (.int (F246 M x1 x2))]) (st' := []) (by decide) H.1 rfl ?_
          replace H := H.2
          refine Ev.steps 6 (pc' := 116) (L' := [some (.ref 59), some (.int x1), some (.int x2), some (.int (F245 M x1 x2)), some (.int (F246 M x1 x2))]) (st' := [.int (F245 M x1 x2), .ref 82, .int (F245 M x1 x2), .ref 82]) rfl ?_
          refine Ev.rd (i := (F245 M x1 x2)) (n := 64) (pc' := 117) (L' := [some (.ref 59), some (.int x1), some (.int x2), some (.int (F245 M x1 x2)), some (.int (F246 M x1 x2))]) (st' := [.int ((upd (M 82) (x1 : Int32).toNatClampNeg (0 &&& 1)) ((F245 M x1 x2) : Int32).toNatClampNeg), .int (F245 M x1 x2), .ref 82]) H.1 rfl ?_
          replace H := H.2
          refine Ev.steps 1 (pc' := if ((upd (M 82) (x1 : Int32).toNatClampNeg (0 &&& 1)) ((F245 M x1 x2) : Int32).toNatClampNeg) = 0 then 120 else 131) (L' := [some (.ref 59), some (.int x1), some (.int x2), some (.int (F245 M x1 x2)), some (.int (F246 M x1 x2))]) (st' := [.int (F245 M x1 x2), .ref 82]) rfl ?_
          refine Ev_ite (fun hc => ?_) (fun hc => ?_)
          · replace H := H.1 hc
            refine Ev.steps 4 (pc' := 125) (L' := [some (.ref 59), some (.int x1), some (.int x2), some (.int (F245 M x1 x2)), some (.int (F246 M x1 x2))]) (st' := [.int (F246 M x1 x2), .int x1, .int (F245 M x1 x2), .ref 59, .int (F245 M x1 x2), .ref 82]) rfl ?_
            refine Ev.call (y := 270) (args := [.ref 59, .int (F245 M x1 x2), .int x1, .int (F246 M x1 x2)]) (rest := [.int (F245 M x1 x2), .ref 82]) (r := some (.int (F270 (up M 82 (upd (M 82) (x1 : Int32).toNatClampNeg (0 &&& 1))) (F245 M x1 x2) x1 (F246 M x1 x2)))) rfl (s270 H.1) ?_
            replace H := H.2
            show Ev 4 271 128 [some (.ref 59), some (.int x1), some (.int x2), some (.int (F245 M x1 x2)), some (.int (F246 M x1 x2))] [.int (F270 (up M 82 (upd (M 82) (x1 : Int32).toNatClampNeg (0 &&& 1))) (F245 M x1 x2) x1 (F246 M x1 x2)), .int (F245 M x1 x2), .ref 82] _ _
            refine Ev.steps 1 (pc' := if (F270 (up M 82 (upd (M 82) (x1 : Int32).toNatClampNeg (0 &&& 1))) (F245 M x1 x2) x1 (F246 M x1 x2)) = 0 then 135 else 131) (L' := [some (.ref 59), some (.int x1), some (.int x2), some (.int (F245 M x1 x2)), some (.int (F246 M x1 x2))]) (st' := [.int (F245 M x1 x2), .ref 82]) rfl ?_
            refine Ev_ite (fun hc => ?_) (fun hc => ?_)
            · replace H := H.1 hc
              refine Ev.steps 1 (pc' := 136) (L' := [some (.ref 59), some (.int x1), some (.int x2), some (.int (F245 M x1 x2)), some (.int (F246 M x1 x2))]) (st' := [.int 0, .int (F245 M x1 x2), .ref 82]) rfl ?_
              refine Ev.wr (a := 82) (g := (upd (upd (M 82) (x1 : Int32).toNatClampNeg (0 &&& 1)) ((F245 M x1 x2) : Int32).toNatClampNeg (0 &&& 1))) (i := (F245 M x1 x2)) (n := 64) (pc' := 137) (L' := [some (.ref 59), some (.int x1), some (.int x2), some (.int (F245 M x1 x2)), some (.int (F246 M x1 x2))]) (st' := []) (by decide) H.1 rfl ?_
              replace H := H.2
              refine Ev.mto (M' := (up M 82 (upd (upd (M 82) (x1 : Int32).toNatClampNeg (0 &&& 1)) ((F245 M x1 x2) : Int32).toNatClampNeg (0 &&& 1)))) (by funext q9; unfold up; by_cases e9 : q9 = 82 <;> simp [e9]) ?_
              refine Ev.steps 2 (pc' := 50) (L' := [some (.ref 59), some (.int x1), some (.int (x2 + 1)), some (.int (F245 M x1 x2)), some (.int (F246 M x1 x2))]) (st' := []) rfl ?_
              exact Ev.weak [some (.ref 59), some (.int x1), some (.int (x2 + 1)), none, none] (gw_leb_le ⟨rfl, rfl, rfl, trivial⟩) H
            · replace H := H.2 hc
              refine Ev.steps 2 (pc' := 136) (L' := [some (.ref 59), some (.int x1), some (.int x2), some (.int (F245 M x1 x2)), some (.int (F246 M x1 x2))]) (st' := [.int 1, .int (F245 M x1 x2), .ref 82]) rfl ?_
              refine Ev.wr (a := 82) (g := (upd (upd (M 82) (x1 : Int32).toNatClampNeg (0 &&& 1)) ((F245 M x1 x2) : Int32).toNatClampNeg (1 &&& 1))) (i := (F245 M x1 x2)) (n := 64) (pc' := 137) (L' := [some (.ref 59), some (.int x1), some (.int x2), some (.int (F245 M x1 x2)), some (.int (F246 M x1 x2))]) (st' := []) (by decide) H.1 rfl ?_
              replace H := H.2
              refine Ev.mto (M' := (up M 82 (upd (upd (M 82) (x1 : Int32).toNatClampNeg (0 &&& 1)) ((F245 M x1 x2) : Int32).toNatClampNeg (1 &&& 1)))) (by funext q9; unfold up; by_cases e9 : q9 = 82 <;> simp [e9]) ?_
              refine Ev.steps 2 (pc' := 50) (L' := [some (.ref 59), some (.int x1), some (.int (x2 + 1)), some (.int (F245 M x1 x2)), some (.int (F246 M x1 x2))]) (st' := []) rfl ?_
              exact Ev.weak [some (.ref 59), some (.int x1), some (.int (x2 + 1)), none, none] (gw_leb_le ⟨rfl, rfl, rfl, trivial⟩) H
          · replace H := H.2 hc
            refine Ev.steps 2 (pc' := 136) (L' := [some (.ref 59), some (.int x1), some (.int x2), some (.int (F245 M x1 x2)), some (.int (F246 M x1 x2))]) (st' := [.int 1, .int (F245 M x1 x2), .ref 82]) rfl ?_
            refine Ev.wr (a := 82) (g := (upd (upd (M 82) (x1 : Int32).toNatClampNeg (0 &&& 1)) ((F245 M x1 x2) : Int32).toNatClampNeg (1 &&& 1))) (i := (F245 M x1 x2)) (n := 64) (pc' := 137) (L' := [some (.ref 59), some (.int x1), some (.int x2), some (.int (F245 M x1 x2)), some (.int (F246 M x1 x2))]) (st' := []) (by decide) H.1 rfl ?_
            replace H := H.2
            refine Ev.mto (M' := (up M 82 (upd (upd (M 82) (x1 : Int32).toNatClampNeg (0 &&& 1)) ((F245 M x1 x2) : Int32).toNatClampNeg (1 &&& 1)))) (by funext q9; unfold up; by_cases e9 : q9 = 82 <;> simp [e9]) ?_
            refine Ev.steps 2 (pc' := 50) (L' := [some (.ref 59), some (.int x1), some (.int (x2 + 1)), some (.int (F245 M x1 x2)), some (.int (F246 M x1 x2))]) (st' := []) rfl ?_
            exact Ev.weak [some (.ref 59), some (.int x1), some (.int (x2 + 1)), none, none] (gw_leb_le ⟨rfl, rfl, rfl, trivial⟩) H
        · replace H := H.2 hc
          refine Ev.steps 2 (pc' := 105) (L' := [some (.ref 59), some (.int x1), some (.int x2), some (.int (F245 M x1 x2)), some (.int (F246 M x1 x2))]) (st' := [.int 1, .int x1, .ref 82]) rfl ?_
          refine Ev.wr (a := 82) (g := (upd (M 82) (x1 : Int32).toNatClampNeg (1 &&& 1))) (i := x1) (n := 64) (pc' := 106) (L' := [some (.ref 59), some (.int x1), some (.int x2), some (.int (F245 M x1 x2)), some (.int (F246 M x1 x2))]) (st' := []) (by decide) H.1 rfl ?_
          replace H := H.2
          refine Ev.steps 6 (pc' := 116) (L' := [some (.ref 59), some (.int x1), some (.int x2), some (.int (F245 M x1 x2)), some (.int (F246 M x1 x2))]) (st' := [.int (F245 M x1 x2), .ref 82, .int (F245 M x1 x2), .ref 82]) rfl ?_
          refine Ev.rd (i := (F245 M x1 x2)) (n := 64) (pc' := 117) (L' := [some (.ref 59), some (.int x1), some (.int x2), some (.int (F245 M x1 x2)), some (.int (F246 M x1 x2))]) (st' := [.int ((upd (M 82) (x1 : Int32).toNatClampNeg (1 &&& 1)) ((F245 M x1 x2) : Int32).toNatClampNeg), .int (F245 M x1 x2), .ref 82]) H.1 rfl ?_
          replace H := H.2
          refine Ev.steps 1 (pc' := if ((upd (M 82) (x1 : Int32).toNatClampNeg (1 &&& 1)) ((F245 M x1 x2) : Int32).toNatClampNeg) = 0 then 120 else 131) (L' := [some (.ref 59), some (.int x1), some (.int x2), some (.int (F245 M x1 x2)), some (.int (F246 M x1 x2))]) (st' := [.int (F245 M x1 x2), .ref 82]) rfl ?_
          refine Ev_ite (fun hc => ?_) (fun hc => ?_)
          · replace H := H.1 hc
            refine Ev.steps 4 (pc' := 125) (L' := [some (.ref 59), some (.int x1), some (.int x2), some (.int (F245 M x1 x2)), some (.int (F246 M x1 x2))]) (st' := [.int (F246 M x1 x2), .int x1, .int (F245 M x1 x2), .ref 59, .int (F245 M x1 x2), .ref 82]) rfl ?_
            refine Ev.call (y := 270) (args := [.ref 59, .int (F245 M x1 x2), .int x1, .int (F246 M x1 x2)]) (rest := [.int (F245 M x1 x2), .ref 82]) (r := some (.int (F270 (up M 82 (upd (M 82) (x1 : Int32).toNatClampNeg (1 &&& 1))) (F245 M x1 x2) x1 (F246 M x1 x2)))) rfl (s270 H.1) ?_
            replace H := H.2
            show Ev 4 271 128 [some (.ref 59), some (.int x1), some (.int x2), some (.int (F245 M x1 x2)), some (.int (F246 M x1 x2))] [.int (F270 (up M 82 (upd (M 82) (x1 : Int32).toNatClampNeg (1 &&& 1))) (F245 M x1 x2) x1 (F246 M x1 x2)), .int (F245 M x1 x2), .ref 82] _ _
            refine Ev.steps 1 (pc' := if (F270 (up M 82 (upd (M 82) (x1 : Int32).toNatClampNeg (1 &&& 1))) (F245 M x1 x2) x1 (F246 M x1 x2)) = 0 then 135 else 131) (L' := [some (.ref 59), some (.int x1), some (.int x2), some (.int (F245 M x1 x2)), some (.int (F246 M x1 x2))]) (st' := [.int (F245 M x1 x2), .ref 82]) rfl ?_
            refine Ev_ite (fun hc => ?_) (fun hc => ?_)
            · replace H := H.1 hc
              refine Ev.steps 1 (pc' := 136) (L' := [some (.ref 59), some (.int x1), some (.int x2), some (.int (F245 M x1 x2)), some (.int (F246 M x1 x2))]) (st' := [.int 0, .int (F245 M x1 x2), .ref 82]) rfl ?_
              refine Ev.wr (a := 82) (g := (upd (upd (M 82) (x1 : Int32).toNatClampNeg (1 &&& 1)) ((F245 M x1 x2) : Int32).toNatClampNeg (0 &&& 1))) (i := (F245 M x1 x2)) (n := 64) (pc' := 137) (L' := [some (.ref 59), some (.int x1), some (.int x2), some (.int (F245 M x1 x2)), some (.int (F246 M x1 x2))]) (st' := []) (by decide) H.1 rfl ?_
              replace H := H.2
              refine Ev.mto (M' := (up M 82 (upd (upd (M 82) (x1 : Int32).toNatClampNeg (1 &&& 1)) ((F245 M x1 x2) : Int32).toNatClampNeg (0 &&& 1)))) (by funext q9; unfold up; by_cases e9 : q9 = 82 <;> simp [e9]) ?_
              refine Ev.steps 2 (pc' := 50) (L' := [some (.ref 59), some (.int x1), some (.int (x2 + 1)), some (.int (F245 M x1 x2)), some (.int (F246 M x1 x2))]) (st' := []) rfl ?_
              exact Ev.weak [some (.ref 59), some (.int x1), some (.int (x2 + 1)), none, none] (gw_leb_le ⟨rfl, rfl, rfl, trivial⟩) H
            · replace H := H.2 hc
              refine Ev.steps 2 (pc' := 136) (L' := [some (.ref 59), some (.int x1), some (.int x2), some (.int (F245 M x1 x2)), some (.int (F246 M x1 x2))]) (st' := [.int 1, .int (F245 M x1 x2), .ref 82]) rfl ?_
              refine Ev.wr (a := 82) (g := (upd (upd (M 82) (x1 : Int32).toNatClampNeg (1 &&& 1)) ((F245 M x1 x2) : Int32).toNatClampNeg (1 &&& 1))) (i := (F245 M x1 x2)) (n := 64) (pc' := 137) (L' := [some (.ref 59), some (.int x1), some (.int x2), some (.int (F245 M x1 x2)), some (.int (F246 M x1 x2))]) (st' := []) (by decide) H.1 rfl ?_
              replace H := H.2
              refine Ev.mto (M' := (up M 82 (upd (upd (M 82) (x1 : Int32).toNatClampNeg (1 &&& 1)) ((F245 M x1 x2) : Int32).toNatClampNeg (1 &&& 1)))) (by funext q9; unfold up; by_cases e9 : q9 = 82 <;> simp [e9]) ?_
              refine Ev.steps 2 (pc' := 50) (L' := [some (.ref 59), some (.int x1), some (.int (x2 + 1)), some (.int (F245 M x1 x2)), some (.int (F246 M x1 x2))]) (st' := []) rfl ?_
              exact Ev.weak [some (.ref 59), some (.int x1), some (.int (x2 + 1)), none, none] (gw_leb_le ⟨rfl, rfl, rfl, trivial⟩) H
          · replace H := H.2 hc
            refine Ev.steps 2 (pc' := 136) (L' := [some (.ref 59), some (.int x1), some (.int x2), some (.int (F245 M x1 x2)), some (.int (F246 M x1 x2))]) (st' := [.int 1, .int (F245 M x1 x2), .ref 82]) rfl ?_
            refine Ev.wr (a := 82) (g := (upd (upd (M 82) (x1 : Int32).toNatClampNeg (1 &&& 1)) ((F245 M x1 x2) : Int32).toNatClampNeg (1 &&& 1))) (i := (F245 M x1 x2)) (n := 64) (pc' := 137) (L' := [some (.ref 59), some (.int x1), some (.int x2), some (.int (F245 M x1 x2)), some (.int (F246 M x1 x2))]) (st' := []) (by decide) H.1 rfl ?_
            replace H := H.2
            refine Ev.mto (M' := (up M 82 (upd (upd (M 82) (x1 : Int32).toNatClampNeg (1 &&& 1)) ((F245 M x1 x2) : Int32).toNatClampNeg (1 &&& 1)))) (by funext q9; unfold up; by_cases e9 : q9 = 82 <;> simp [e9]) ?_
            refine Ev.steps 2 (pc' := 50) (L' := [some (.ref 59), some (.int x1), some (.int (x2 + 1)), some (.int (F245 M x1 x2)), some (.int (F246 M x1 x2))]) (st' := []) rfl ?_
            exact Ev.weak [some (.ref 59), some (.int x1), some (.int (x2 + 1)), none, none] (gw_leb_le ⟨rfl, rfl, rfl, trivial⟩) H
      · replace H := H.2 hc
        refine Ev.steps 2 (pc' := 105) (L' := [some (.ref 59), some (.int x1), some (.int x2), some (.int (F245 M x1 x2)), some (.int (F246 M x1 x2))]) (st' := [.int 1, .int x1, .ref 82]) rfl ?_
        refine Ev.wr (a := 82) (g := (upd (M 82) (x1 : Int32).toNatClampNeg (1 &&& 1))) (i := x1) (n := 64) (pc' := 106) (L' := [some (.ref 59), some (.int x1), some (.int x2), some (.int (F245 M x1 x2)), some (.int (F246 M x1 x2))]) (st' := []) (by decide) H.1 rfl ?_
        replace H := H.2
        refine Ev.steps 6 (pc' := 116) (L' := [some (.ref 59), some (.int x1), some (.int x2), some (.int (F245 M x1 x2)), some (.int (F246 M x1 x2))]) (st' := [.int (F245 M x1 x2), .ref 82, .int (F245 M x1 x2), .ref 82]) rfl ?_
        refine Ev.rd (i := (F245 M x1 x2)) (n := 64) (pc' := 117) (L' := [some (.ref 59), some (.int x1), some (.int x2), some (.int (F245 M x1 x2)), some (.int (F246 M x1 x2))]) (st' := [.int ((upd (M 82) (x1 : Int32).toNatClampNeg (1 &&& 1)) ((F245 M x1 x2) : Int32).toNatClampNeg), .int (F245 M x1 x2), .ref 82]) H.1 rfl ?_
        replace H := H.2
        refine Ev.steps 1 (pc' := if ((upd (M 82) (x1 : Int32).toNatClampNeg (1 &&& 1)) ((F245 M x1 x2) : Int32).toNatClampNeg) = 0 then 120 else 131) (L' := [some (.ref 59), some (.int x1), some (.int x2), some (.int (F245 M x1 x2)), some (.int (F246 M x1 x2))]) (st' := [.int (F245 M x1 x2), .ref 82]) rfl ?_
        refine Ev_ite (fun hc => ?_) (fun hc => ?_)
        · replace H := H.1 hc
          refine Ev.steps 4 (pc' := 125) (L' := [some (.ref 59), some (.int x1), some (.int x2), some (.int (F245 M x1 x2)), some (.int (F246 M x1 x2))]) (st' := [.int (F246 M x1 x2), .int x1, .int (F245 M x1 x2), .ref 59, .int (F245 M x1 x2), .ref 82]) rfl ?_
          refine Ev.call (y := 270) (args := [.ref 59, .int (F245 M x1 x2), .int x1, .int (F246 M x1 x2)]) (rest := [.int (F245 M x1 x2), .ref 82]) (r := some (.int (F270 (up M 82 (upd (M 82) (x1 : Int32).toNatClampNeg (1 &&& 1))) (F245 M x1 x2) x1 (F246 M x1 x2)))) rfl (s270 H.1) ?_
          replace H := H.2
          show Ev 4 271 128 [some (.ref 59), some (.int x1), some (.int x2), some (.int (F245 M x1 x2)), some (.int (F246 M x1 x2))] [.int (F270 (up M 82 (upd (M 82) (x1 : Int32).toNatClampNeg (1 &&& 1))) (F245 M x1 x2) x1 (F246 M x1 x2)), .int (F245 M x1 x2), .ref 82] _ _
          refine Ev.steps 1 (pc' := if (F270 (up M 82 (upd (M 82) (x1 : Int32).toNatClampNeg (1 &&& 1))) (F245 M x1 x2) x1 (F246 M x1 x2)) = 0 then 135 else 131) (L' := [some (.ref 59), some (.int x1), some (.int x2), some (.int (F245 M x1 x2)), some (.int (F246 M x1 x2))]) (st' := [.int (F245 M x1 x2), .ref 82]) rfl ?_
          refine Ev_ite (fun hc => ?_) (fun hc => ?_)
          · replace H := H.1 hc
            refine Ev.steps 1 (pc' := 136) (L' := [some (.ref 59), some (.int x1), some (.int x2), some (.int (F245 M x1 x2)), some (.int (F246 M x1 x2))]) (st' := [.int 0, .int (F245 M x1 x2), .ref 82]) rfl ?_
            refine Ev.wr (a := 82) (g := (upd (upd (M 82) (x1 : Int32).toNatClampNeg (1 &&& 1)) ((F245 M x1 x2) : Int32).toNatClampNeg (0 &&& 1))) (i := (F245 M x1 x2)) (n := 64) (pc' := 137) (L' := [some (.ref 59), some (.int x1), some (.int x2), some (.int (F245 M x1 x2)), some (.int (F246 M x1 x2))]) (st' := []) (by decide) H.1 rfl ?_
            replace H := H.2
            refine Ev.mto (M' := (up M 82 (upd (upd (M 82) (x1 : Int32).toNatClampNeg (1 &&& 1)) ((F245 M x1 x2) : Int32).toNatClampNeg (0 &&& 1)))) (by funext q9; unfold up; by_cases e9 : q9 = 82 <;> simp [e9]) ?_
            refine Ev.steps 2 (pc' := 50) (L' := [some (.ref 59), some (.int x1), some (.int (x2 + 1)), some (.int (F245 M x1 x2)), some (.int (F246 M x1 x2))]) (st' := []) rfl ?_
            exact Ev.weak [some (.ref 59), some (.int x1), some (.int (x2 + 1)), none, none] (gw_leb_le ⟨rfl, rfl, rfl, trivial⟩) H
          · replace H := H.2 hc
            refine Ev.steps 2 (pc' := 136) (L' := [some (.ref 59), some (.int x1), some (.int x2), some (.int (F245 M x1 x2)), some (.int (F246 M x1 x2))]) (st' := [.int 1, .int (F245 M x1 x2), .ref 82]) rfl ?_
            refine Ev.wr (a := 82) (g := (upd (upd (M 82) (x1 : Int32).toNatClampNeg (1 &&& 1)) ((F245 M x1 x2) : Int32).toNatClampNeg (1 &&& 1))) (i := (F245 M x1 x2)) (n := 64) (pc' := 137) (L' := [some (.ref 59), some (.int x1), some (.int x2), some (.int (F245 M x1 x2)), some (.int (F246 M x1 x2))]) (st' := []) (by decide) H.1 rfl ?_
            replace H := H.2
            refine Ev.mto (M' := (up M 82 (upd (upd (M 82) (x1 : Int32).toNatClampNeg (1 &&& 1)) ((F245 M x1 x2) : Int32).toNatClampNeg (1 &&& 1)))) (by funext q9; unfold up; by_cases e9 : q9 = 82 <;> simp [e9]) ?_
            refine Ev.steps 2 (pc' := 50) (L' := [some (.ref 59), some (.int x1), some (.int (x2 + 1)), some (.int (F245 M x1 x2)), some (.int (F246 M x1 x2))]) (st' := []) rfl ?_
            exact Ev.weak [some (.ref 59), some (.int x1), some (.int (x2 + 1)), none, none] (gw_leb_le ⟨rfl, rfl, rfl, trivial⟩) H
        · replace H := H.2 hc
          refine Ev.steps 2 (pc' := 136) (L' := [some (.ref 59), some (.int x1), some (.int x2), some (.int (F245 M x1 x2)), some (.int (F246 M x1 x2))]) (st' := [.int 1, .int (F245 M x1 x2), .ref 82]) rfl ?_
          refine Ev.wr (a := 82) (g := (upd (upd (M 82) (x1 : Int32).toNatClampNeg (1 &&& 1)) ((F245 M x1 x2) : Int32).toNatClampNeg (1 &&& 1))) (i := (F245 M x1 x2)) (n := 64) (pc' := 137) (L' := [some (.ref 59), some (.int x1), some (.int x2), some (.int (F245 M x1 x2)), some (.int (F246 M x1 x2))]) (st' := []) (by decide) H.1 rfl ?_
          replace H := H.2
          refine Ev.mto (M' := (up M 82 (upd (upd (M 82) (x1 : Int32).toNatClampNeg (1 &&& 1)) ((F245 M x1 x2) : Int32).toNatClampNeg (1 &&& 1)))) (by funext q9; unfold up; by_cases e9 : q9 = 82 <;> simp [e9]) ?_
          refine Ev.steps 2 (pc' := 50) (L' := [some (.ref 59), some (.int x1), some (.int (x2 + 1)), some (.int (F245 M x1 x2)), some (.int (F246 M x1 x2))]) (st' := []) rfl ?_
          exact Ev.weak [some (.ref 59), some (.int x1), some (.int (x2 + 1)), none, none] (gw_leb_le ⟨rfl, rfl, rfl, trivial⟩) H

-- 277 GlassWiresModel bleeding ()I
set_option maxRecDepth 20000 in
theorem w277_0 {E : gw_N} {M : Mem} {res : Option Value × gw_H}  (H : Ev 4 277 4 [some (.ref 59), some (.int 0), some (.int 0), none, none] [] (hs E M) res) : Ev 4 277 0 [some (.ref 59), none, none, none, none] [] (hs E M) res := by
  refine Ev.steps 4 (pc' := 4) (L' := [some (.ref 59), some (.int 0), some (.int 0), none, none]) (st' := []) rfl ?_
  exact Ev.weak [some (.ref 59), some (.int 0), some (.int 0), none, none] (gw_leb_le ⟨rfl, rfl, rfl, trivial⟩) H

set_option maxRecDepth 20000 in
theorem w277_4 {E : gw_N} {M : Mem} {res : Option Value × gw_H} {x1 : Int32} {x2 : Int32} (H : (((F243 M) ≤ x2 → res = (some (.int x1), hs E M)) ∧ (¬ (F243 M) ≤ x2 → Ev 4 277 14 [some (.ref 59), some (.int x1), some (.int x2), some (.int 0), none] [] (hs E M) res))) : Ev 4 277 4 [some (.ref 59), some (.int x1), some (.int x2), none, none] [] (hs E M) res := by
  refine Ev.steps 2 (pc' := 6) (L' := [some (.ref 59), some (.int x1), some (.int x2), none, none]) (st' := [.ref 59, .int x2]) rfl ?_
  refine Ev.call (y := 243) (args := [.ref 59]) (rest := [.int x2]) (r := some (.int (F243 M))) rfl (s243) ?_
  show Ev 4 277 9 [some (.ref 59), some (.int x1), some (.int x2), none, none] [.int (F243 M), .int x2] _ _
  refine Ev.steps 1 (pc' := if (F243 M) ≤ x2 then 113 else 12) (L' := [some (.ref 59), some (.int x1), some (.int x2), none, none]) (st' := []) rfl ?_
  refine Ev_ite (fun hc => ?_) (fun hc => ?_)
  · replace H := H.1 hc
    refine Ev.steps 1 (pc' := 114) (L' := [some (.ref 59), some (.int x1), some (.int x2), none, none]) (st' := [.int x1]) rfl ?_
    subst H
    exact Ev.ret rfl
  · replace H := H.2 hc
    refine Ev.steps 2 (pc' := 14) (L' := [some (.ref 59), some (.int x1), some (.int x2), some (.int 0), none]) (st' := []) rfl ?_
    exact Ev.weak [some (.ref 59), some (.int x1), some (.int x2), some (.int 0), none] (gw_leb_le ⟨rfl, rfl, rfl, rfl, trivial⟩) H

set_option maxRecDepth 20000 in
theorem w277_14 {E : gw_N} {M : Mem} {res : Option Value × gw_H} {x1 : Int32} {x2 : Int32} {x3 : Int32} (H : ((2 ≤ x3 → Ev 4 277 4 [some (.ref 59), some (.int x1), some (.int (x2 + 1)), none, none] [] (hs E M) res) ∧ (¬ 2 ≤ x3 → (P245 M x2 x3 ∧ (((F245 M x2 x3) = (-1) → Ev 4 277 14 [some (.ref 59), some (.int x1), some (.int x2), some (.int (x3 + 1)), none] [] (hs E M) res) ∧ (¬ (F245 M x2 x3) = (-1) → (inb x2 64 ∧ ((((M 77) (x2 : Int32).toNatClampNeg) ≤ 0 → Ev 4 277 14 [some (.ref 59), some (.int x1), some (.int x2), some (.int (x3 + 1)), none] [] (hs E M) res) ∧ (¬ ((M 77) (x2 : Int32).toNatClampNeg) ≤ 0 → (inb (F245 M x2 x3) 64 ∧ ((((M 77) ((F245 M x2 x3) : Int32).toNatClampNeg) ≤ 0 → Ev 4 277 14 [some (.ref 59), some (.int x1), some (.int x2), some (.int (x3 + 1)), none] [] (hs E M) res) ∧ (¬ ((M 77) ((F245 M x2 x3) : Int32).toNatClampNeg) ≤ 0 → (P276 M x2 ∧ (inb (F276 M x2) 768 ∧ (P276 M (F245 M x2 x3) ∧ (inb (F276 M (F245 M x2 x3)) 768 ∧ (inb ((8 * ((M 78) ((F276 M x2) : Int32).toNatClampNeg)) + ((M 78) ((F276 M (F245 M x2 x3)) : Int32).toNatClampNeg)) 64 ∧ ((((M 76) (((8 * ((M 78) ((F276 M x2) : Int32).toNatClampNeg)) + ((M 78) ((F276 M (F245 M x2 x3)) : Int32).toNatClampNeg)) : Int32).toNatClampNeg) = 0 → Ev 4 277 14 [some (.ref 59), some (.int x1), some (.int x2), some (.int (x3 + 1)), none] [] (hs E M) res) ∧ (¬ ((M 76) (((8 * ((M 78) ((F276 M x2) : Int32).toNatClampNeg)) + ((M 78) ((F276 M (F245 M x2 x3)) : Int32).toNatClampNeg)) : Int32).toNatClampNeg) = 0 → (P246 M x2 x3 ∧ (∃ (r1 : Int32), Rn 275 [.ref 59, .int (F246 M x2 x3)] (hs E M) (some (.int r1)) (hs E M) ∧ ((r1 = 0 → Ev 4 277 14 [some (.ref 59), some (.int (x1 + 1)), some (.int x2), some (.int (x3 + 1)), none] [] (hs E M) res) ∧ (¬ r1 = 0 → Ev 4 277 14 [some (.ref 59), some (.int x1), some (.int x2), some (.int (x3 + 1)), none] [] (hs E M) res))))))))))))))))))))))) : Ev 4 277 14 [some (.ref 59), some (.int x1), some (.int x2), some (.int x3), none] [] (hs E M) res := by
  refine Ev.steps 3 (pc' := if 2 ≤ x3 then 107 else 19) (L' := [some (.ref 59), some (.int x1), some (.int x2), some (.int x3), none]) (st' := []) rfl ?_
  refine Ev_ite (fun hc => ?_) (fun hc => ?_)
  · replace H := H.1 hc
    refine Ev.steps 2 (pc' := 4) (L' := [some (.ref 59), some (.int x1), some (.int (x2 + 1)), some (.int x3), none]) (st' := []) rfl ?_
    exact Ev.weak [some (.ref 59), some (.int x1), some (.int (x2 + 1)), none, none] (gw_leb_le ⟨rfl, rfl, rfl, trivial⟩) H
  · replace H := H.2 hc
    refine Ev.steps 3 (pc' := 22) (L' := [some (.ref 59), some (.int x1), some (.int x2), some (.int x3), none]) (st' := [.int x3, .int x2, .ref 59]) rfl ?_
    refine Ev.call (y := 245) (args := [.ref 59, .int x2, .int x3]) (rest := []) (r := some (.int (F245 M x2 x3))) rfl (s245 H.1) ?_
    replace H := H.2
    show Ev 4 277 25 [some (.ref 59), some (.int x1), some (.int x2), some (.int x3), none] [.int (F245 M x2 x3)] _ _
    refine Ev.steps 4 (pc' := if (F245 M x2 x3) = (-1) then 101 else 33) (L' := [some (.ref 59), some (.int x1), some (.int x2), some (.int x3), some (.int (F245 M x2 x3))]) (st' := []) rfl ?_
    refine Ev_ite (fun hc => ?_) (fun hc => ?_)
    · replace H := H.1 hc
      refine Ev.steps 2 (pc' := 14) (L' := [some (.ref 59), some (.int x1), some (.int x2), some (.int (x3 + 1)), some (.int (F245 M x2 x3))]) (st' := []) rfl ?_
      exact Ev.weak [some (.ref 59), some (.int x1), some (.int x2), some (.int (x3 + 1)), none] (gw_leb_le ⟨rfl, rfl, rfl, rfl, trivial⟩) H
    · replace H := H.2 hc
      refine Ev.steps 3 (pc' := 38) (L' := [some (.ref 59), some (.int x1), some (.int x2), some (.int x3), some (.int (F245 M x2 x3))]) (st' := [.int x2, .ref 77]) rfl ?_
      refine Ev.rd (i := x2) (n := 64) (pc' := 39) (L' := [some (.ref 59), some (.int x1), some (.int x2), some (.int x3), some (.int (F245 M x2 x3))]) (st' := [.int ((M 77) (x2 : Int32).toNatClampNeg)]) H.1 rfl ?_
      replace H := H.2
      refine Ev.steps 1 (pc' := if ((M 77) (x2 : Int32).toNatClampNeg) ≤ 0 then 101 else 42) (L' := [some (.ref 59), some (.int x1), some (.int x2), some (.int x3), some (.int (F245 M x2 x3))]) (st' := []) rfl ?_
      refine Ev_ite (fun hc => ?_) (fun hc => ?_)
      · replace H := H.1 hc
        refine Ev.steps 2 (pc' := 14) (L' := [some (.ref 59), some (.int x1), some (.int x2), some (.int (x3 + 1)), some (.int (F245 M x2 x3))]) (st' := []) rfl ?_
        exact Ev.weak [some (.ref 59), some (.int x1), some (.int x2), some (.int (x3 + 1)), none] (gw_leb_le ⟨rfl, rfl, rfl, rfl, trivial⟩) H
      · replace H := H.2 hc
        refine Ev.steps 3 (pc' := 48) (L' := [some (.ref 59), some (.int x1), some (.int x2), some (.int x3), some (.int (F245 M x2 x3))]) (st' := [.int (F245 M x2 x3), .ref 77]) rfl ?_
        refine Ev.rd (i := (F245 M x2 x3)) (n := 64) (pc' := 49) (L' := [some (.ref 59), some (.int x1), some (.int x2), some (.int x3), some (.int (F245 M x2 x3))]) (st' := [.int ((M 77) ((F245 M x2 x3) : Int32).toNatClampNeg)]) H.1 rfl ?_
        replace H := H.2
        refine Ev.steps 1 (pc' := if ((M 77) ((F245 M x2 x3) : Int32).toNatClampNeg) ≤ 0 then 101 else 52) (L' := [some (.ref 59), some (.int x1), some (.int x2), some (.int x3), some (.int (F245 M x2 x3))]) (st' := []) rfl ?_
        refine Ev_ite (fun hc => ?_) (fun hc => ?_)
        · replace H := H.1 hc
          refine Ev.steps 2 (pc' := 14) (L' := [some (.ref 59), some (.int x1), some (.int x2), some (.int (x3 + 1)), some (.int (F245 M x2 x3))]) (st' := []) rfl ?_
          exact Ev.weak [some (.ref 59), some (.int x1), some (.int x2), some (.int (x3 + 1)), none] (gw_leb_le ⟨rfl, rfl, rfl, rfl, trivial⟩) H
        · replace H := H.2 hc
          refine Ev.steps 7 (pc' := 64) (L' := [some (.ref 59), some (.int x1), some (.int x2), some (.int x3), some (.int (F245 M x2 x3))]) (st' := [.int x2, .ref 59, .ref 78, .int 8, .ref 76]) rfl ?_
          refine Ev.call (y := 276) (args := [.ref 59, .int x2]) (rest := [.ref 78, .int 8, .ref 76]) (r := some (.int (F276 M x2))) rfl (s276 H.1) ?_
          replace H := H.2
          show Ev 4 277 67 [some (.ref 59), some (.int x1), some (.int x2), some (.int x3), some (.int (F245 M x2 x3))] [.int (F276 M x2), .ref 78, .int 8, .ref 76] _ _
          refine Ev.rd (i := (F276 M x2)) (n := 768) (pc' := 68) (L' := [some (.ref 59), some (.int x1), some (.int x2), some (.int x3), some (.int (F245 M x2 x3))]) (st' := [.int ((M 78) ((F276 M x2) : Int32).toNatClampNeg), .int 8, .ref 76]) H.1 rfl ?_
          replace H := H.2
          refine Ev.steps 5 (pc' := 76) (L' := [some (.ref 59), some (.int x1), some (.int x2), some (.int x3), some (.int (F245 M x2 x3))]) (st' := [.int (F245 M x2 x3), .ref 59, .ref 78, .int (8 * ((M 78) ((F276 M x2) : Int32).toNatClampNeg)), .ref 76]) rfl ?_
          refine Ev.call (y := 276) (args := [.ref 59, .int (F245 M x2 x3)]) (rest := [.ref 78, .int (8 * ((M 78) ((F276 M x2) : Int32).toNatClampNeg)), .ref 76]) (r := some (.int (F276 M (F245 M x2 x3)))) rfl (s276 H.1) ?_
          replace H := H.2
          show Ev 4 277 79 [some (.ref 59), some (.int x1), some (.int x2), some (.int x3), some (.int (F245 M x2 x3))] [.int (F276 M (F245 M x2 x3)), .ref 78, .int (8 * ((M 78) ((F276 M x2) : Int32).toNatClampNeg)), .ref 76] _ _
          refine Ev.rd (i := (F276 M (F245 M x2 x3))) (n := 768) (pc' := 80) (L' := [some (.ref 59), some (.int x1), some (.int x2), some (.int x3), some (.int (F245 M x2 x3))]) (st' := [.int ((M 78) ((F276 M (F245 M x2 x3)) : Int32).toNatClampNeg), .int (8 * ((M 78) ((F276 M x2) : Int32).toNatClampNeg)), .ref 76]) H.1 rfl ?_
          replace H := H.2
          refine Ev.steps 1 (pc' := 81) (L' := [some (.ref 59), some (.int x1), some (.int x2), some (.int x3), some (.int (F245 M x2 x3))]) (st' := [.int ((8 * ((M 78) ((F276 M x2) : Int32).toNatClampNeg)) + ((M 78) ((F276 M (F245 M x2 x3)) : Int32).toNatClampNeg)), .ref 76]) rfl ?_
          refine Ev.rd (i := ((8 * ((M 78) ((F276 M x2) : Int32).toNatClampNeg)) + ((M 78) ((F276 M (F245 M x2 x3)) : Int32).toNatClampNeg))) (n := 64) (pc' := 82) (L' := [some (.ref 59), some (.int x1), some (.int x2), some (.int x3), some (.int (F245 M x2 x3))]) (st' := [.int ((M 76) (((8 * ((M 78) ((F276 M x2) : Int32).toNatClampNeg)) + ((M 78) ((F276 M (F245 M x2 x3)) : Int32).toNatClampNeg)) : Int32).toNatClampNeg)]) H.1 rfl ?_
          replace H := H.2
          refine Ev.steps 1 (pc' := if ((M 76) (((8 * ((M 78) ((F276 M x2) : Int32).toNatClampNeg)) + ((M 78) ((F276 M (F245 M x2 x3)) : Int32).toNatClampNeg)) : Int32).toNatClampNeg) = 0 then 101 else 85) (L' := [some (.ref 59), some (.int x1), some (.int x2), some (.int x3), some (.int (F245 M x2 x3))]) (st' := []) rfl ?_
          refine Ev_ite (fun hc => ?_) (fun hc => ?_)
          · replace H := H.1 hc
            refine Ev.steps 2 (pc' := 14) (L' := [some (.ref 59), some (.int x1), some (.int x2), some (.int (x3 + 1)), some (.int (F245 M x2 x3))]) (st' := []) rfl ?_
            exact Ev.weak [some (.ref 59), some (.int x1), some (.int x2), some (.int (x3 + 1)), none] (gw_leb_le ⟨rfl, rfl, rfl, rfl, trivial⟩) H
          · replace H := H.2 hc
            refine Ev.steps 4 (pc' := 89) (L' := [some (.ref 59), some (.int x1), some (.int x2), some (.int x3), some (.int (F245 M x2 x3))]) (st' := [.int x3, .int x2, .ref 59, .ref 59]) rfl ?_
            refine Ev.call (y := 246) (args := [.ref 59, .int x2, .int x3]) (rest := [.ref 59]) (r := some (.int (F246 M x2 x3))) rfl (s246 H.1) ?_
            replace H := H.2
            show Ev 4 277 92 [some (.ref 59), some (.int x1), some (.int x2), some (.int x3), some (.int (F245 M x2 x3))] [.int (F246 M x2 x3), .ref 59] _ _
            obtain ⟨r1, hr1, H⟩ := H
            refine Ev.call (y := 275) (args := [.ref 59, .int (F246 M x2 x3)]) (rest := []) (r := (some (.int r1))) rfl hr1 ?_
            show Ev 4 277 95 [some (.ref 59), some (.int x1), some (.int x2), some (.int x3), some (.int (F245 M x2 x3))] [.int r1] _ _
            refine Ev.steps 1 (pc' := if r1 = 0 then 98 else 101) (L' := [some (.ref 59), some (.int x1), some (.int x2), some (.int x3), some (.int (F245 M x2 x3))]) (st' := []) rfl ?_
            refine Ev_ite (fun hc => ?_) (fun hc => ?_)
            · replace H := H.1 hc
              refine Ev.steps 3 (pc' := 14) (L' := [some (.ref 59), some (.int (x1 + 1)), some (.int x2), some (.int (x3 + 1)), some (.int (F245 M x2 x3))]) (st' := []) rfl ?_
              exact Ev.weak [some (.ref 59), some (.int (x1 + 1)), some (.int x2), some (.int (x3 + 1)), none] (gw_leb_le ⟨rfl, rfl, rfl, rfl, trivial⟩) H
            · replace H := H.2 hc
              refine Ev.steps 2 (pc' := 14) (L' := [some (.ref 59), some (.int x1), some (.int x2), some (.int (x3 + 1)), some (.int (F245 M x2 x3))]) (st' := []) rfl ?_
              exact Ev.weak [some (.ref 59), some (.int x1), some (.int x2), some (.int (x3 + 1)), none] (gw_leb_le ⟨rfl, rfl, rfl, rfl, trivial⟩) H

-- 288 GlassWiresModel bowNow ()I
set_option maxRecDepth 20000 in
theorem w288_0 {E : gw_N} {M : Mem} {res : Option Value × gw_H}  (H : (∃ (r1 : Int32), Rn 287 [.ref 59, .int ((M 59) 34), .int ((M 59) 35)] (hs E M) (some (.int r1)) (hs E M) ∧ res = (some (.int r1), hs E M))) : Ev 4 288 0 [some (.ref 59)] [] (hs E M) res := by
  refine Ev.steps 5 (pc' := 9) (L' := [some (.ref 59)]) (st' := [.int ((M 59) 35), .int ((M 59) 34), .ref 59]) rfl ?_
  obtain ⟨r1, hr1, H⟩ := H
  refine Ev.call (y := 287) (args := [.ref 59, .int ((M 59) 34), .int ((M 59) 35)]) (rest := []) (r := (some (.int r1))) rfl hr1 ?_
  show Ev 4 288 12 [some (.ref 59)] [.int r1] _ _
  subst H
  exact Ev.ret rfl

-- 291 GlassWiresModel straight (I)I
set_option maxRecDepth 20000 in
theorem w291_0 {E : gw_N} {M : Mem} {res : Option Value × gw_H} {x1 : Int32} (H : (((F261 M x1) = 0 → res = (some (.int (-101)), hs E M)) ∧ (¬ (F261 M x1) = 0 → Ev 4 291 14 [some (.ref 59), some (.int x1), some (.int 0), some (.int 1)] [] (hs E M) res))) : Ev 4 291 0 [some (.ref 59), some (.int x1), none, none] [] (hs E M) res := by
  refine Ev.steps 1 (pc' := 1) (L' := [some (.ref 59), some (.int x1), none, none]) (st' := [.int x1]) rfl ?_
  refine Ev.call (y := 261) (args := [.int x1]) (rest := []) (r := some (.int (F261 M x1))) rfl (s261) ?_
  show Ev 4 291 4 [some (.ref 59), some (.int x1), none, none] [.int (F261 M x1)] _ _
  refine Ev.steps 1 (pc' := if (F261 M x1) = 0 then 7 else 10) (L' := [some (.ref 59), some (.int x1), none, none]) (st' := []) rfl ?_
  refine Ev_ite (fun hc => ?_) (fun hc => ?_)
  · replace H := H.1 hc
    refine Ev.steps 1 (pc' := 9) (L' := [some (.ref 59), some (.int x1), none, none]) (st' := [.int (-101)]) rfl ?_
    subst H
    exact Ev.ret rfl
  · replace H := H.2 hc
    refine Ev.steps 4 (pc' := 14) (L' := [some (.ref 59), some (.int x1), some (.int 0), some (.int 1)]) (st' := []) rfl ?_
    exact Ev.weak [some (.ref 59), some (.int x1), some (.int 0), some (.int 1)] (gw_leb_le ⟨rfl, rfl, rfl, rfl, trivial⟩) H

set_option maxRecDepth 20000 in
theorem w291_14 {E : gw_N} {M : Mem} {res : Option Value × gw_H} {x1 : Int32} {x2 : Int32} {x3 : Int32} (H : ((100 ≤ x3 → res = (some (.int x2), hs E M)) ∧ (¬ 100 ≤ x3 → (∃ (r1 : Int32), Rn 287 [.ref 59, .int x1, .int x3] (hs E M) (some (.int r1)) (hs E M) ∧ (∃ (r2 : Int32), Rn 287 [.ref 59, .int x1, .int x2] (hs E M) (some (.int r2)) (hs E M) ∧ (((F290 M r2) ≤ (F290 M r1) → Ev 4 291 14 [some (.ref 59), some (.int x1), some (.int x2), some (.int (x3 + 1))] [] (hs E M) res) ∧ (¬ (F290 M r2) ≤ (F290 M r1) → Ev 4 291 14 [some (.ref 59), some (.int x1), some (.int x3), some (.int (x3 + 1))] [] (hs E M) res))))))) : Ev 4 291 14 [some (.ref 59), some (.int x1), some (.int x2), some (.int x3)] [] (hs E M) res := by
  refine Ev.steps 3 (pc' := if 100 ≤ x3 then 53 else 20) (L' := [some (.ref 59), some (.int x1), some (.int x2), some (.int x3)]) (st' := []) rfl ?_
  refine Ev_ite (fun hc => ?_) (fun hc => ?_)
  · replace H := H.1 hc
    refine Ev.steps 1 (pc' := 54) (L' := [some (.ref 59), some (.int x1), some (.int x2), some (.int x3)]) (st' := [.int x2]) rfl ?_
    subst H
    exact Ev.ret rfl
  · replace H := H.2 hc
    refine Ev.steps 3 (pc' := 23) (L' := [some (.ref 59), some (.int x1), some (.int x2), some (.int x3)]) (st' := [.int x3, .int x1, .ref 59]) rfl ?_
    obtain ⟨r1, hr1, H⟩ := H
    refine Ev.call (y := 287) (args := [.ref 59, .int x1, .int x3]) (rest := []) (r := (some (.int r1))) rfl hr1 ?_
    show Ev 4 291 26 [some (.ref 59), some (.int x1), some (.int x2), some (.int x3)] [.int r1] _ _
    refine Ev.call (y := 290) (args := [.int r1]) (rest := []) (r := some (.int (F290 M r1))) rfl (s290) ?_
    show Ev 4 291 29 [some (.ref 59), some (.int x1), some (.int x2), some (.int x3)] [.int (F290 M r1)] _ _
    refine Ev.steps 3 (pc' := 32) (L' := [some (.ref 59), some (.int x1), some (.int x2), some (.int x3)]) (st' := [.int x2, .int x1, .ref 59, .int (F290 M r1)]) rfl ?_
    obtain ⟨r2, hr2, H⟩ := H
    refine Ev.call (y := 287) (args := [.ref 59, .int x1, .int x2]) (rest := [.int (F290 M r1)]) (r := (some (.int r2))) rfl hr2 ?_
    show Ev 4 291 35 [some (.ref 59), some (.int x1), some (.int x2), some (.int x3)] [.int r2, .int (F290 M r1)] _ _
    refine Ev.call (y := 290) (args := [.int r2]) (rest := [.int (F290 M r1)]) (r := some (.int (F290 M r2))) rfl (s290) ?_
    show Ev 4 291 38 [some (.ref 59), some (.int x1), some (.int x2), some (.int x3)] [.int (F290 M r2), .int (F290 M r1)] _ _
    refine Ev.steps 1 (pc' := if (F290 M r2) ≤ (F290 M r1) then 45 else 41) (L' := [some (.ref 59), some (.int x1), some (.int x2), some (.int x3)]) (st' := []) rfl ?_
    refine Ev_ite (fun hc => ?_) (fun hc => ?_)
    · replace H := H.1 hc
      refine Ev.steps 4 (pc' := 14) (L' := [some (.ref 59), some (.int x1), some (.int x2), some (.int (x3 + 1))]) (st' := []) rfl ?_
      exact Ev.weak [some (.ref 59), some (.int x1), some (.int x2), some (.int (x3 + 1))] (gw_leb_le ⟨rfl, rfl, rfl, rfl, trivial⟩) H
    · replace H := H.2 hc
      refine Ev.steps 5 (pc' := 14) (L' := [some (.ref 59), some (.int x1), some (.int x3), some (.int (x3 + 1))]) (st' := []) rfl ?_
      exact Ev.weak [some (.ref 59), some (.int x1), some (.int x3), some (.int (x3 + 1))] (gw_leb_le ⟨rfl, rfl, rfl, rfl, trivial⟩) H

-- 1 GlassWires$Cells find ()V
set_option maxRecDepth 20000 in
theorem w1_0 {E : gw_N} {M : Mem} {res : Option Value × gw_H}  (H : (∃ (M1 : Mem), Rn 313 [.ref 33, .int (-1)] (hs E M) none (hs E M1) ∧ Ev 5 1 15 [some (.ref 32), some (.int 0)] [] (hs E (up M1 32 (upd (M1 32) 5 0))) res)) : Ev 5 1 0 [some (.ref 32), none] [] (hs E M) res := by
  refine Ev.steps 3 (pc' := 5) (L' := [some (.ref 32), none]) (st' := [.int (-1), .ref 33]) rfl ?_
  obtain ⟨M1, hr1, H⟩ := H
  refine Ev.call (y := 313) (args := [.ref 33, .int (-1)]) (rest := []) (r := none) rfl hr1 ?_
  show Ev 5 1 8 [some (.ref 32), none] [] _ _
  refine Ev.steps 2 (pc' := 10) (L' := [some (.ref 32), none]) (st' := [.int 0, .ref 32]) rfl ?_
  refine Ev.mem (a := 32) (g := (upd (M1 32) 5 0)) (pc' := 13) (L' := [some (.ref 32), none]) (st' := []) (by decide) rfl ?_
  refine Ev.steps 2 (pc' := 15) (L' := [some (.ref 32), some (.int 0)]) (st' := []) rfl ?_
  exact Ev.weak [some (.ref 32), some (.int 0)] (gw_leb_le ⟨rfl, rfl, trivial⟩) H

set_option maxRecDepth 20000 in
theorem w1_15 {E : gw_N} {M : Mem} {res : Option Value × gw_H} {x1 : Int32} (H : (((F40 M) ≤ x1 → res = (none, hs E M)) ∧ (¬ (F40 M) ≤ x1 → (inb x1 64 ∧ ((((M 33) (x1 : Int32).toNatClampNeg) = (-1) → (∃ (r1 : Int32) (M1 : Mem), Rn 2 [.ref 32, .int x1] (hs E M) (some (.int r1)) (hs E M1) ∧ (inb x1 64 ∧ Ev 5 1 15 [some (.ref 32), some (.int (x1 + 1))] [] (hs E (up (up M1 34 (upd (M1 34) (x1 : Int32).toNatClampNeg r1)) 32 (upd (M1 32) 5 (((M1 32) 5) + 1)))) res))) ∧ (¬ ((M 33) (x1 : Int32).toNatClampNeg) = (-1) → Ev 5 1 15 [some (.ref 32), some (.int (x1 + 1))] [] (hs E M) res)))))) : Ev 5 1 15 [some (.ref 32), some (.int x1)] [] (hs E M) res := by
  refine Ev.steps 3 (pc' := 20) (L' := [some (.ref 32), some (.int x1)]) (st' := [.ref 9, .int x1]) rfl ?_
  refine Ev.call (y := 40) (args := [.ref 9]) (rest := [.int x1]) (r := some (.int (F40 M))) rfl (s40) ?_
  show Ev 5 1 23 [some (.ref 32), some (.int x1)] [.int (F40 M), .int x1] _ _
  refine Ev.steps 1 (pc' := if (F40 M) ≤ x1 then 63 else 26) (L' := [some (.ref 32), some (.int x1)]) (st' := []) rfl ?_
  refine Ev_ite (fun hc => ?_) (fun hc => ?_)
  · replace H := H.1 hc
    subst H
    exact Ev.ret rfl
  · replace H := H.2 hc
    refine Ev.steps 3 (pc' := 31) (L' := [some (.ref 32), some (.int x1)]) (st' := [.int x1, .ref 33]) rfl ?_
    refine Ev.rd (i := x1) (n := 64) (pc' := 32) (L' := [some (.ref 32), some (.int x1)]) (st' := [.int ((M 33) (x1 : Int32).toNatClampNeg)]) H.1 rfl ?_
    replace H := H.2
    refine Ev.steps 2 (pc' := if ((M 33) (x1 : Int32).toNatClampNeg) = (-1) then 36 else 57) (L' := [some (.ref 32), some (.int x1)]) (st' := []) rfl ?_
    refine Ev_ite (fun hc => ?_) (fun hc => ?_)
    · replace H := H.1 hc
      refine Ev.steps 5 (pc' := 43) (L' := [some (.ref 32), some (.int x1)]) (st' := [.int x1, .ref 32, .int x1, .ref 34]) rfl ?_
      obtain ⟨r1, M1, hr1, H⟩ := H
      refine Ev.call (y := 2) (args := [.ref 32, .int x1]) (rest := [.int x1, .ref 34]) (r := (some (.int r1))) rfl hr1 ?_
      show Ev 5 1 46 [some (.ref 32), some (.int x1)] [.int r1, .int x1, .ref 34] _ _
      refine Ev.wr (a := 34) (g := (upd (M1 34) (x1 : Int32).toNatClampNeg r1)) (i := x1) (n := 64) (pc' := 47) (L' := [some (.ref 32), some (.int x1)]) (st' := []) (by decide) H.1 rfl ?_
      replace H := H.2
      refine Ev.steps 5 (pc' := 54) (L' := [some (.ref 32), some (.int x1)]) (st' := [.int (((M1 32) 5) + 1), .ref 32]) rfl ?_
      refine Ev.mem (a := 32) (g := (upd (M1 32) 5 (((M1 32) 5) + 1))) (pc' := 57) (L' := [some (.ref 32), some (.int x1)]) (st' := []) (by decide) rfl ?_
      refine Ev.steps 2 (pc' := 15) (L' := [some (.ref 32), some (.int (x1 + 1))]) (st' := []) rfl ?_
      exact Ev.weak [some (.ref 32), some (.int (x1 + 1))] (gw_leb_le ⟨rfl, rfl, trivial⟩) H
    · replace H := H.2 hc
      refine Ev.steps 2 (pc' := 15) (L' := [some (.ref 32), some (.int (x1 + 1))]) (st' := []) rfl ?_
      exact Ev.weak [some (.ref 32), some (.int (x1 + 1))] (gw_leb_le ⟨rfl, rfl, trivial⟩) H

-- 22 GlassWires$Glass runOver ()V
set_option maxRecDepth 20000 in
theorem w22_0 {E : gw_N} {M : Mem} {res : Option Value × gw_H}  (H : Ev 5 22 2 [some (.ref 44), some (.int 0)] [] (hs E M) res) : Ev 5 22 0 [some (.ref 44), none] [] (hs E M) res := by
  refine Ev.steps 2 (pc' := 2) (L' := [some (.ref 44), some (.int 0)]) (st' := []) rfl ?_
  exact Ev.weak [some (.ref 44), some (.int 0)] (gw_leb_le ⟨rfl, rfl, trivial⟩) H

set_option maxRecDepth 20000 in
theorem w22_2 {E : gw_N} {M : Mem} {res : Option Value × gw_H} {x1 : Int32} (H : (((F40 M) ≤ x1 → Ev 5 22 32 [some (.ref 44), some (.int 0)] [] (hs E M) res) ∧ (¬ (F40 M) ≤ x1 → (∃ (r1 : Int32), Rn 13 [.ref 44, .int x1] (hs E M) (some (.int r1)) (hs E M) ∧ (inb x1 64 ∧ Ev 5 22 2 [some (.ref 44), some (.int (x1 + 1))] [] (hs E (up M 49 (upd (M 49) (x1 : Int32).toNatClampNeg r1))) res))))) : Ev 5 22 2 [some (.ref 44), some (.int x1)] [] (hs E M) res := by
  refine Ev.steps 3 (pc' := 7) (L' := [some (.ref 44), some (.int x1)]) (st' := [.ref 9, .int x1]) rfl ?_
  refine Ev.call (y := 40) (args := [.ref 9]) (rest := [.int x1]) (r := some (.int (F40 M))) rfl (s40) ?_
  show Ev 5 22 10 [some (.ref 44), some (.int x1)] [.int (F40 M), .int x1] _ _
  refine Ev.steps 1 (pc' := if (F40 M) ≤ x1 then 30 else 13) (L' := [some (.ref 44), some (.int x1)]) (st' := []) rfl ?_
  refine Ev_ite (fun hc => ?_) (fun hc => ?_)
  · replace H := H.1 hc
    refine Ev.steps 2 (pc' := 32) (L' := [some (.ref 44), some (.int 0)]) (st' := []) rfl ?_
    exact Ev.weak [some (.ref 44), some (.int 0)] (gw_leb_le ⟨rfl, rfl, trivial⟩) H
  · replace H := H.2 hc
    refine Ev.steps 5 (pc' := 20) (L' := [some (.ref 44), some (.int x1)]) (st' := [.int x1, .ref 44, .int x1, .ref 49]) rfl ?_
    obtain ⟨r1, hr1, H⟩ := H
    refine Ev.call (y := 13) (args := [.ref 44, .int x1]) (rest := [.int x1, .ref 49]) (r := (some (.int r1))) rfl hr1 ?_
    show Ev 5 22 23 [some (.ref 44), some (.int x1)] [.int r1, .int x1, .ref 49] _ _
    refine Ev.wr (a := 49) (g := (upd (M 49) (x1 : Int32).toNatClampNeg r1)) (i := x1) (n := 64) (pc' := 24) (L' := [some (.ref 44), some (.int x1)]) (st' := []) (by decide) H.1 rfl ?_
    replace H := H.2
    refine Ev.steps 2 (pc' := 2) (L' := [some (.ref 44), some (.int (x1 + 1))]) (st' := []) rfl ?_
    exact Ev.weak [some (.ref 44), some (.int (x1 + 1))] (gw_leb_le ⟨rfl, rfl, trivial⟩) H

set_option maxRecDepth 20000 in
theorem w22_32 {E : gw_N} {M : Mem} {res : Option Value × gw_H} {x1 : Int32} (H : (((F40 M) ≤ x1 → res = (none, hs E M)) ∧ (¬ (F40 M) ≤ x1 → (inb x1 64 ∧ (P103 M ∧ ((((M 49) (x1 : Int32).toNatClampNeg) ≤ (F103 M) → Ev 5 22 32 [some (.ref 44), some (.int (x1 + 1))] [] (hs E M) res) ∧ (¬ ((M 49) (x1 : Int32).toNatClampNeg) ≤ (F103 M) → (∃ (r1 : Int32), Rn 23 [.ref 44, .int x1] (hs E M) (some (.int r1)) (hs E M) ∧ ((r1 = 0 → Ev 5 22 32 [some (.ref 44), some (.int (x1 + 1))] [] (hs E M) res) ∧ (¬ r1 = 0 → (inb x1 64 ∧ (P103 M ∧ (∃ (r2 : Int32) (M2 : Mem), Rn 24 [.ref 44, .int x1, .int (((M 49) (x1 : Int32).toNatClampNeg) - (F103 M))] (hs E M) (some (.int r2)) (hs E M2) ∧ Ev 5 22 32 [some (.ref 44), some (.int (x1 + 1))] [] (hs E M2) res))))))))))))) : Ev 5 22 32 [some (.ref 44), some (.int x1)] [] (hs E M) res := by
  refine Ev.steps 3 (pc' := 37) (L' := [some (.ref 44), some (.int x1)]) (st' := [.ref 9, .int x1]) rfl ?_
  refine Ev.call (y := 40) (args := [.ref 9]) (rest := [.int x1]) (r := some (.int (F40 M))) rfl (s40) ?_
  show Ev 5 22 40 [some (.ref 44), some (.int x1)] [.int (F40 M), .int x1] _ _
  refine Ev.steps 1 (pc' := if (F40 M) ≤ x1 then 93 else 43) (L' := [some (.ref 44), some (.int x1)]) (st' := []) rfl ?_
  refine Ev_ite (fun hc => ?_) (fun hc => ?_)
  · replace H := H.1 hc
    subst H
    exact Ev.ret rfl
  · replace H := H.2 hc
    refine Ev.steps 3 (pc' := 48) (L' := [some (.ref 44), some (.int x1)]) (st' := [.int x1, .ref 49]) rfl ?_
    refine Ev.rd (i := x1) (n := 64) (pc' := 49) (L' := [some (.ref 44), some (.int x1)]) (st' := [.int ((M 49) (x1 : Int32).toNatClampNeg)]) H.1 rfl ?_
    replace H := H.2
    refine Ev.steps 2 (pc' := 53) (L' := [some (.ref 44), some (.int x1)]) (st' := [.ref 40, .int ((M 49) (x1 : Int32).toNatClampNeg)]) rfl ?_
    refine Ev.call (y := 103) (args := [.ref 40]) (rest := [.int ((M 49) (x1 : Int32).toNatClampNeg)]) (r := some (.int (F103 M))) rfl (s103 H.1) ?_
    replace H := H.2
    show Ev 5 22 56 [some (.ref 44), some (.int x1)] [.int (F103 M), .int ((M 49) (x1 : Int32).toNatClampNeg)] _ _
    refine Ev.steps 1 (pc' := if ((M 49) (x1 : Int32).toNatClampNeg) ≤ (F103 M) then 87 else 59) (L' := [some (.ref 44), some (.int x1)]) (st' := []) rfl ?_
    refine Ev_ite (fun hc => ?_) (fun hc => ?_)
    · replace H := H.1 hc
      refine Ev.steps 2 (pc' := 32) (L' := [some (.ref 44), some (.int (x1 + 1))]) (st' := []) rfl ?_
      exact Ev.weak [some (.ref 44), some (.int (x1 + 1))] (gw_leb_le ⟨rfl, rfl, trivial⟩) H
    · replace H := H.2 hc
      refine Ev.steps 2 (pc' := 61) (L' := [some (.ref 44), some (.int x1)]) (st' := [.int x1, .ref 44]) rfl ?_
      obtain ⟨r1, hr1, H⟩ := H
      refine Ev.call (y := 23) (args := [.ref 44, .int x1]) (rest := []) (r := (some (.int r1))) rfl hr1 ?_
      show Ev 5 22 64 [some (.ref 44), some (.int x1)] [.int r1] _ _
      refine Ev.steps 1 (pc' := if r1 = 0 then 87 else 67) (L' := [some (.ref 44), some (.int x1)]) (st' := []) rfl ?_
      refine Ev_ite (fun hc => ?_) (fun hc => ?_)
      · replace H := H.1 hc
        refine Ev.steps 2 (pc' := 32) (L' := [some (.ref 44), some (.int (x1 + 1))]) (st' := []) rfl ?_
        exact Ev.weak [some (.ref 44), some (.int (x1 + 1))] (gw_leb_le ⟨rfl, rfl, trivial⟩) H
      · replace H := H.2 hc
        refine Ev.steps 5 (pc' := 74) (L' := [some (.ref 44), some (.int x1)]) (st' := [.int x1, .ref 49, .int x1, .ref 44]) rfl ?_
        refine Ev.rd (i := x1) (n := 64) (pc' := 75) (L' := [some (.ref 44), some (.int x1)]) (st' := [.int ((M 49) (x1 : Int32).toNatClampNeg), .int x1, .ref 44]) H.1 rfl ?_
        replace H := H.2
        refine Ev.steps 2 (pc' := 79) (L' := [some (.ref 44), some (.int x1)]) (st' := [.ref 40, .int ((M 49) (x1 : Int32).toNatClampNeg), .int x1, .ref 44]) rfl ?_
        refine Ev.call (y := 103) (args := [.ref 40]) (rest := [.int ((M 49) (x1 : Int32).toNatClampNeg), .int x1, .ref 44]) (r := some (.int (F103 M))) rfl (s103 H.1) ?_
        replace H := H.2
        show Ev 5 22 82 [some (.ref 44), some (.int x1)] [.int (F103 M), .int ((M 49) (x1 : Int32).toNatClampNeg), .int x1, .ref 44] _ _
        refine Ev.steps 1 (pc' := 83) (L' := [some (.ref 44), some (.int x1)]) (st' := [.int (((M 49) (x1 : Int32).toNatClampNeg) - (F103 M)), .int x1, .ref 44]) rfl ?_
        obtain ⟨r2, M2, hr2, H⟩ := H
        refine Ev.call (y := 24) (args := [.ref 44, .int x1, .int (((M 49) (x1 : Int32).toNatClampNeg) - (F103 M))]) (rest := []) (r := (some (.int r2))) rfl hr2 ?_
        show Ev 5 22 86 [some (.ref 44), some (.int x1)] [.int r2] _ _
        refine Ev.steps 3 (pc' := 32) (L' := [some (.ref 44), some (.int (x1 + 1))]) (st' := []) rfl ?_
        exact Ev.weak [some (.ref 44), some (.int (x1 + 1))] (gw_leb_le ⟨rfl, rfl, trivial⟩) H

