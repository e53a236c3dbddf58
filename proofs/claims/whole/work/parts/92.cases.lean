/-! the law's loop, by program (law2.py) -/
theorem ty_go {m : Nat} : ∀ (n b pc : Nat) (L : gw_L) (st : List Value) (h : gw_H) (r : Option Value) (h1 : gw_H), gw_Go n b m pc L st h (r, h1) → ∃ (M : gw_M) (i : Instr) (st' : List Value), gw_mi m = some M ∧ gw_rtv M.2.2.2.2.1 i st' = some r := by
  intro n
  induction n with
  | zero => intro b pc L st h r h1 hg; exact hg.elim
  | succ n ih =>
    intro b pc L st h r h1 hg
    rcases hg with ⟨L2, _, h2⟩ | ⟨s', _, h2⟩ | ⟨r2, h2, h3⟩ | ⟨y, args, rest, r2, h2, _, _, h4⟩
    · exact ih _ _ _ _ _ _ _ h2
    · exact ih _ _ _ _ _ _ _ h2
    · cases h3
      unfold gw_ret at h2
      cases hat : gw_at m pc with
      | none => rw [hat] at h2; cases h2
      | some q =>
        rw [hat] at h2
        unfold gw_at at hat
        cases hm : gw_mi m with
        | none => rw [hm] at hat; cases hat
        | some M =>
          rw [hm] at hat
          dsimp only at hat
          split at hat
          · cases hat
            exact ⟨M, _, _, rfl, h2⟩
          · cases hat
    · exact ih _ _ _ _ _ _ _ h4
theorem rn_int {m : Nat} {args : List Value} {h h1 : gw_H} {r : Value} (hm : (gw_mi m).map (fun M => M.2.2.2.2.1) = some (some .int)) (hr : Rn m args h (some r) h1) : ∃ x, r = .int x := by
  obtain ⟨n, hn⟩ := hr
  obtain ⟨M, i, st', e1, e2⟩ := ty_go _ _ _ _ _ _ _ _ hn
  rw [e1] at hm
  have e3 : M.2.2.2.2.1 = some .int := Option.some.inj hm
  rw [e3] at e2
  unfold gw_rtv at e2
  split at e2
  · cases e2; exact ⟨_, rfl⟩
  · rename_i hq; cases hq
  · rename_i hq; cases hq
  · rename_i hq; cases hq
  · cases e2
theorem rn_long {m : Nat} {args : List Value} {h h1 : gw_H} {r : Value} (hm : (gw_mi m).map (fun M => M.2.2.2.2.1) = some (some .long)) (hr : Rn m args h (some r) h1) : ∃ x, r = .long x := by
  obtain ⟨n, hn⟩ := hr
  obtain ⟨M, i, st', e1, e2⟩ := ty_go _ _ _ _ _ _ _ _ hn
  rw [e1] at hm
  have e3 : M.2.2.2.2.1 = some .long := Option.some.inj hm
  rw [e3] at e2
  unfold gw_rtv at e2
  split at e2
  · rename_i hq; cases hq
  · rename_i hq; cases hq
  · cases e2; exact ⟨_, rfl⟩
  · rename_i hq; cases hq
  · cases e2
theorem lg_same {x : Int64} : lg_cmp x x = 0 := by
  unfold lg_cmp
  rw [if_neg (by simp), if_pos rfl]
set_option maxRecDepth 100000 in
theorem lc0 {X : Nat × (Nat → Int32)} {q : Int32} {P : Pic} {N : NM} (hI : GInv P N) (h1 : inb (q + 1) X.1) (h2 : inb (q + 2) X.1) (h3 : inb (q + 3) X.1) (h4 : inb (q + 4) X.1) : ∃ P' N', GInv P' N' ∧ ∀ res, Ev 40 309 1531 [some (.ref 0), some (.ref 8), some (.ref 59), some (.int q)] [] (hs (X, 90, 11875) (jm N')) res → Ev 40 309 216 [some (.ref 0), some (.ref 8), some (.ref 59), some (.int q)] [] (hs (X, 90, 11875) (jm N)) res := by
  obtain ⟨r, P2, N1, N2, r1, r2, hI2⟩ := op_plate (E := (X, 90, 11875)) (x1 := Int32.toInt (X.2 (q + 1 : Int32).toNatClampNeg)) (x2 := Int32.toInt (X.2 (q + 2 : Int32).toNatClampNeg)) hI (R_toInt _) (R_toInt _)
  simp only [J_toInt] at r1 r2
  obtain ⟨x, rfl⟩ := rn_int (m := 161) rfl r1
  refine ⟨P2, N2, hI2, fun res hres => ?_⟩
  refine Ev.steps 5 (pc' := 221) (L' := [some (.ref 0), some (.ref 8), some (.ref 59), some (.int q)]) (st' := [.int (q + 1), .ref 0, .ref 8]) rfl ?_
  refine Ev.rd (i := (q + 1)) (n := X.1) (pc' := 222) (L' := [some (.ref 0), some (.ref 8), some (.ref 59), some (.int q)]) (st' := [.int (X.2 ((q + 1) : Int32).toNatClampNeg), .ref 8]) h1 rfl ?_
  refine Ev.steps 4 (pc' := 226) (L' := [some (.ref 0), some (.ref 8), some (.ref 59), some (.int q)]) (st' := [.int (q + 2), .ref 0, .int (X.2 ((q + 1) : Int32).toNatClampNeg), .ref 8]) rfl ?_
  refine Ev.rd (i := (q + 2)) (n := X.1) (pc' := 227) (L' := [some (.ref 0), some (.ref 8), some (.ref 59), some (.int q)]) (st' := [.int (X.2 ((q + 2) : Int32).toNatClampNeg), .int (X.2 ((q + 1) : Int32).toNatClampNeg), .ref 8]) h2 rfl ?_
  refine Ev.call (y := 161) (args := [.ref 8, .int (X.2 ((q + 1) : Int32).toNatClampNeg), .int (X.2 ((q + 2) : Int32).toNatClampNeg)]) (rest := []) (r := some (.int x)) (h1 := (hs (X, 90, 11875) (jm N1))) rfl r1 ?_
  show Ev 40 309 230 [some (.ref 0), some (.ref 8), some (.ref 59), some (.int q)] [.int x] (hs (X, 90, 11875) (jm N1)) res
  refine Ev.steps 5 (pc' := 235) (L' := [some (.ref 0), some (.ref 8), some (.ref 59), some (.int q)]) (st' := [.int (q + 1), .ref 0, .ref 59, .int x]) rfl ?_
  refine Ev.rd (i := (q + 1)) (n := X.1) (pc' := 236) (L' := [some (.ref 0), some (.ref 8), some (.ref 59), some (.int q)]) (st' := [.int (X.2 ((q + 1) : Int32).toNatClampNeg), .ref 59, .int x]) h1 rfl ?_
  refine Ev.steps 4 (pc' := 240) (L' := [some (.ref 0), some (.ref 8), some (.ref 59), some (.int q)]) (st' := [.int (q + 2), .ref 0, .int (X.2 ((q + 1) : Int32).toNatClampNeg), .ref 59, .int x]) rfl ?_
  refine Ev.rd (i := (q + 2)) (n := X.1) (pc' := 241) (L' := [some (.ref 0), some (.ref 8), some (.ref 59), some (.int q)]) (st' := [.int (X.2 ((q + 2) : Int32).toNatClampNeg), .int (X.2 ((q + 1) : Int32).toNatClampNeg), .ref 59, .int x]) h2 rfl ?_
  refine Ev.call (y := 211) (args := [.ref 59, .int (X.2 ((q + 1) : Int32).toNatClampNeg), .int (X.2 ((q + 2) : Int32).toNatClampNeg)]) (rest := [.int x]) (r := some (.int x)) (h1 := (hs (X, 90, 11875) (jm N2))) rfl r2 ?_
  show Ev 40 309 244 [some (.ref 0), some (.ref 8), some (.ref 59), some (.int q)] [.int x, .int x] (hs (X, 90, 11875) (jm N2)) res
  refine Ev.sw (p := if x = x then 1531 else 247) (pc' := 1531) (L' := [some (.ref 0), some (.ref 8), some (.ref 59), some (.int q)]) (st' := []) rfl (if_pos rfl) ?_
  exact hres
set_option maxRecDepth 100000 in
theorem lc1 {X : Nat × (Nat → Int32)} {q : Int32} {P : Pic} {N : NM} (hI : GInv P N) (h1 : inb (q + 1) X.1) (h2 : inb (q + 2) X.1) (h3 : inb (q + 3) X.1) (h4 : inb (q + 4) X.1) : ∃ P' N', GInv P' N' ∧ ∀ res, Ev 40 309 1531 [some (.ref 0), some (.ref 8), some (.ref 59), some (.int q)] [] (hs (X, 90, 11875) (jm N')) res → Ev 40 309 249 [some (.ref 0), some (.ref 8), some (.ref 59), some (.int q)] [] (hs (X, 90, 11875) (jm N)) res := by
  obtain ⟨r, P2, N1, N2, r1, r2, hI2⟩ := op_letters (E := (X, 90, 11875)) (w := ((Int32.toInt64 (X.2 (q + 1 : Int32).toNatClampNeg) <<< ((32 : Int32).toInt64 &&& 63)) ||| (Int32.toInt64 (X.2 (q + 2 : Int32).toNatClampNeg) &&& 4294967295))) hI
  obtain ⟨x, rfl⟩ := rn_int (m := 162) rfl r1
  refine ⟨P2, N2, hI2, fun res hres => ?_⟩
  refine Ev.steps 5 (pc' := 254) (L' := [some (.ref 0), some (.ref 8), some (.ref 59), some (.int q)]) (st' := [.int (q + 1), .ref 0, .ref 8]) rfl ?_
  refine Ev.rd (i := (q + 1)) (n := X.1) (pc' := 255) (L' := [some (.ref 0), some (.ref 8), some (.ref 59), some (.int q)]) (st' := [.int (X.2 ((q + 1) : Int32).toNatClampNeg), .ref 8]) h1 rfl ?_
  refine Ev.steps 7 (pc' := 263) (L' := [some (.ref 0), some (.ref 8), some (.ref 59), some (.int q)]) (st' := [.int (q + 2), .ref 0, .long ((Int32.toInt64 (X.2 ((q + 1) : Int32).toNatClampNeg)) <<< ((32 : Int32).toInt64 &&& 63)), .ref 8]) rfl ?_
  refine Ev.rd (i := (q + 2)) (n := X.1) (pc' := 264) (L' := [some (.ref 0), some (.ref 8), some (.ref 59), some (.int q)]) (st' := [.int (X.2 ((q + 2) : Int32).toNatClampNeg), .long ((Int32.toInt64 (X.2 ((q + 1) : Int32).toNatClampNeg)) <<< ((32 : Int32).toInt64 &&& 63)), .ref 8]) h2 rfl ?_
  refine Ev.steps 4 (pc' := 270) (L' := [some (.ref 0), some (.ref 8), some (.ref 59), some (.int q)]) (st' := [.long (((Int32.toInt64 (X.2 ((q + 1) : Int32).toNatClampNeg)) <<< ((32 : Int32).toInt64 &&& 63)) ||| ((Int32.toInt64 (X.2 ((q + 2) : Int32).toNatClampNeg)) &&& 4294967295)), .ref 8]) rfl ?_
  refine Ev.call (y := 162) (args := [.ref 8, .long (((Int32.toInt64 (X.2 ((q + 1) : Int32).toNatClampNeg)) <<< ((32 : Int32).toInt64 &&& 63)) ||| ((Int32.toInt64 (X.2 ((q + 2) : Int32).toNatClampNeg)) &&& 4294967295))]) (rest := []) (r := some (.int x)) (h1 := (hs (X, 90, 11875) (jm N1))) rfl r1 ?_
  show Ev 40 309 273 [some (.ref 0), some (.ref 8), some (.ref 59), some (.int q)] [.int x] (hs (X, 90, 11875) (jm N1)) res
  refine Ev.steps 5 (pc' := 278) (L' := [some (.ref 0), some (.ref 8), some (.ref 59), some (.int q)]) (st' := [.int (q + 1), .ref 0, .ref 59, .int x]) rfl ?_
  refine Ev.rd (i := (q + 1)) (n := X.1) (pc' := 279) (L' := [some (.ref 0), some (.ref 8), some (.ref 59), some (.int q)]) (st' := [.int (X.2 ((q + 1) : Int32).toNatClampNeg), .ref 59, .int x]) h1 rfl ?_
  refine Ev.steps 7 (pc' := 287) (L' := [some (.ref 0), some (.ref 8), some (.ref 59), some (.int q)]) (st' := [.int (q + 2), .ref 0, .long ((Int32.toInt64 (X.2 ((q + 1) : Int32).toNatClampNeg)) <<< ((32 : Int32).toInt64 &&& 63)), .ref 59, .int x]) rfl ?_
  refine Ev.rd (i := (q + 2)) (n := X.1) (pc' := 288) (L' := [some (.ref 0), some (.ref 8), some (.ref 59), some (.int q)]) (st' := [.int (X.2 ((q + 2) : Int32).toNatClampNeg), .long ((Int32.toInt64 (X.2 ((q + 1) : Int32).toNatClampNeg)) <<< ((32 : Int32).toInt64 &&& 63)), .ref 59, .int x]) h2 rfl ?_
  refine Ev.steps 4 (pc' := 294) (L' := [some (.ref 0), some (.ref 8), some (.ref 59), some (.int q)]) (st' := [.long (((Int32.toInt64 (X.2 ((q + 1) : Int32).toNatClampNeg)) <<< ((32 : Int32).toInt64 &&& 63)) ||| ((Int32.toInt64 (X.2 ((q + 2) : Int32).toNatClampNeg)) &&& 4294967295)), .ref 59, .int x]) rfl ?_
  refine Ev.call (y := 212) (args := [.ref 59, .long (((Int32.toInt64 (X.2 ((q + 1) : Int32).toNatClampNeg)) <<< ((32 : Int32).toInt64 &&& 63)) ||| ((Int32.toInt64 (X.2 ((q + 2) : Int32).toNatClampNeg)) &&& 4294967295))]) (rest := [.int x]) (r := some (.int x)) (h1 := (hs (X, 90, 11875) (jm N2))) rfl r2 ?_
  show Ev 40 309 297 [some (.ref 0), some (.ref 8), some (.ref 59), some (.int q)] [.int x, .int x] (hs (X, 90, 11875) (jm N2)) res
  refine Ev.sw (p := if x = x then 1531 else 300) (pc' := 1531) (L' := [some (.ref 0), some (.ref 8), some (.ref 59), some (.int q)]) (st' := []) rfl (if_pos rfl) ?_
  exact hres
set_option maxRecDepth 100000 in
theorem lc2 {X : Nat × (Nat → Int32)} {q : Int32} {P : Pic} {N : NM} (hI : GInv P N) (h1 : inb (q + 1) X.1) (h2 : inb (q + 2) X.1) (h3 : inb (q + 3) X.1) (h4 : inb (q + 4) X.1) : ∃ P' N', GInv P' N' ∧ ∀ res, Ev 40 309 1531 [some (.ref 0), some (.ref 8), some (.ref 59), some (.int q)] [] (hs (X, 90, 11875) (jm N')) res → Ev 40 309 302 [some (.ref 0), some (.ref 8), some (.ref 59), some (.int q)] [] (hs (X, 90, 11875) (jm N)) res := by
  obtain ⟨r, P2, N1, N2, r1, r2, hI2⟩ := op_blank (E := (X, 90, 11875))  hI 
  obtain ⟨x, rfl⟩ := rn_int (m := 163) rfl r1
  refine ⟨P2, N2, hI2, fun res hres => ?_⟩
  refine Ev.steps 1 (pc' := 303) (L' := [some (.ref 0), some (.ref 8), some (.ref 59), some (.int q)]) (st' := [.ref 8]) rfl ?_
  refine Ev.call (y := 163) (args := [.ref 8]) (rest := []) (r := some (.int x)) (h1 := (hs (X, 90, 11875) (jm N1))) rfl r1 ?_
  show Ev 40 309 306 [some (.ref 0), some (.ref 8), some (.ref 59), some (.int q)] [.int x] (hs (X, 90, 11875) (jm N1)) res
  refine Ev.steps 1 (pc' := 307) (L' := [some (.ref 0), some (.ref 8), some (.ref 59), some (.int q)]) (st' := [.ref 59, .int x]) rfl ?_
  refine Ev.call (y := 213) (args := [.ref 59]) (rest := [.int x]) (r := some (.int x)) (h1 := (hs (X, 90, 11875) (jm N2))) rfl r2 ?_
  show Ev 40 309 310 [some (.ref 0), some (.ref 8), some (.ref 59), some (.int q)] [.int x, .int x] (hs (X, 90, 11875) (jm N2)) res
  refine Ev.sw (p := if x = x then 1531 else 313) (pc' := 1531) (L' := [some (.ref 0), some (.ref 8), some (.ref 59), some (.int q)]) (st' := []) rfl (if_pos rfl) ?_
  exact hres
set_option maxRecDepth 100000 in
theorem lc3 {X : Nat × (Nat → Int32)} {q : Int32} {P : Pic} {N : NM} (hI : GInv P N) (h1 : inb (q + 1) X.1) (h2 : inb (q + 2) X.1) (h3 : inb (q + 3) X.1) (h4 : inb (q + 4) X.1) : ∃ P' N', GInv P' N' ∧ ∀ res, Ev 40 309 1531 [some (.ref 0), some (.ref 8), some (.ref 59), some (.int q)] [] (hs (X, 90, 11875) (jm N')) res → Ev 40 309 315 [some (.ref 0), some (.ref 8), some (.ref 59), some (.int q)] [] (hs (X, 90, 11875) (jm N)) res := by
  obtain ⟨r, P2, N1, N2, r1, r2, hI2⟩ := op_good (E := (X, 90, 11875)) (x1 := Int32.toInt (X.2 (q + 1 : Int32).toNatClampNeg)) (x2 := Int32.toInt (X.2 (q + 2 : Int32).toNatClampNeg)) hI (R_toInt _) (R_toInt _)
  simp only [J_toInt] at r1 r2
  obtain ⟨x, rfl⟩ := rn_int (m := 164) rfl r1
  refine ⟨P2, N2, hI2, fun res hres => ?_⟩
  refine Ev.steps 5 (pc' := 320) (L' := [some (.ref 0), some (.ref 8), some (.ref 59), some (.int q)]) (st' := [.int (q + 1), .ref 0, .ref 8]) rfl ?_
  refine Ev.rd (i := (q + 1)) (n := X.1) (pc' := 321) (L' := [some (.ref 0), some (.ref 8), some (.ref 59), some (.int q)]) (st' := [.int (X.2 ((q + 1) : Int32).toNatClampNeg), .ref 8]) h1 rfl ?_
  refine Ev.steps 4 (pc' := 325) (L' := [some (.ref 0), some (.ref 8), some (.ref 59), some (.int q)]) (st' := [.int (q + 2), .ref 0, .int (X.2 ((q + 1) : Int32).toNatClampNeg), .ref 8]) rfl ?_
  refine Ev.rd (i := (q + 2)) (n := X.1) (pc' := 326) (L' := [some (.ref 0), some (.ref 8), some (.ref 59), some (.int q)]) (st' := [.int (X.2 ((q + 2) : Int32).toNatClampNeg), .int (X.2 ((q + 1) : Int32).toNatClampNeg), .ref 8]) h2 rfl ?_
  refine Ev.call (y := 164) (args := [.ref 8, .int (X.2 ((q + 1) : Int32).toNatClampNeg), .int (X.2 ((q + 2) : Int32).toNatClampNeg)]) (rest := []) (r := some (.int x)) (h1 := (hs (X, 90, 11875) (jm N1))) rfl r1 ?_
  show Ev 40 309 329 [some (.ref 0), some (.ref 8), some (.ref 59), some (.int q)] [.int x] (hs (X, 90, 11875) (jm N1)) res
  refine Ev.steps 5 (pc' := 334) (L' := [some (.ref 0), some (.ref 8), some (.ref 59), some (.int q)]) (st' := [.int (q + 1), .ref 0, .ref 59, .int x]) rfl ?_
  refine Ev.rd (i := (q + 1)) (n := X.1) (pc' := 335) (L' := [some (.ref 0), some (.ref 8), some (.ref 59), some (.int q)]) (st' := [.int (X.2 ((q + 1) : Int32).toNatClampNeg), .ref 59, .int x]) h1 rfl ?_
  refine Ev.steps 4 (pc' := 339) (L' := [some (.ref 0), some (.ref 8), some (.ref 59), some (.int q)]) (st' := [.int (q + 2), .ref 0, .int (X.2 ((q + 1) : Int32).toNatClampNeg), .ref 59, .int x]) rfl ?_
  refine Ev.rd (i := (q + 2)) (n := X.1) (pc' := 340) (L' := [some (.ref 0), some (.ref 8), some (.ref 59), some (.int q)]) (st' := [.int (X.2 ((q + 2) : Int32).toNatClampNeg), .int (X.2 ((q + 1) : Int32).toNatClampNeg), .ref 59, .int x]) h2 rfl ?_
  refine Ev.call (y := 218) (args := [.ref 59, .int (X.2 ((q + 1) : Int32).toNatClampNeg), .int (X.2 ((q + 2) : Int32).toNatClampNeg)]) (rest := [.int x]) (r := some (.int x)) (h1 := (hs (X, 90, 11875) (jm N2))) rfl r2 ?_
  show Ev 40 309 343 [some (.ref 0), some (.ref 8), some (.ref 59), some (.int q)] [.int x, .int x] (hs (X, 90, 11875) (jm N2)) res
  refine Ev.sw (p := if x = x then 1531 else 346) (pc' := 1531) (L' := [some (.ref 0), some (.ref 8), some (.ref 59), some (.int q)]) (st' := []) rfl (if_pos rfl) ?_
  exact hres
set_option maxRecDepth 100000 in
theorem lc4 {X : Nat × (Nat → Int32)} {q : Int32} {P : Pic} {N : NM} (hI : GInv P N) (h1 : inb (q + 1) X.1) (h2 : inb (q + 2) X.1) (h3 : inb (q + 3) X.1) (h4 : inb (q + 4) X.1) : ∃ P' N', GInv P' N' ∧ ∀ res, Ev 40 309 1531 [some (.ref 0), some (.ref 8), some (.ref 59), some (.int q)] [] (hs (X, 90, 11875) (jm N')) res → Ev 40 309 348 [some (.ref 0), some (.ref 8), some (.ref 59), some (.int q)] [] (hs (X, 90, 11875) (jm N)) res := by
  obtain ⟨r, P2, N1, N2, r1, r2, hI2⟩ := op_wire (E := (X, 90, 11875)) (x1 := Int32.toInt (X.2 (q + 1 : Int32).toNatClampNeg)) (x2 := Int32.toInt (X.2 (q + 2 : Int32).toNatClampNeg)) hI (R_toInt _) (R_toInt _)
  simp only [J_toInt] at r1 r2
  obtain ⟨x, rfl⟩ := rn_int (m := 165) rfl r1
  refine ⟨P2, N2, hI2, fun res hres => ?_⟩
  refine Ev.steps 5 (pc' := 353) (L' := [some (.ref 0), some (.ref 8), some (.ref 59), some (.int q)]) (st' := [.int (q + 1), .ref 0, .ref 8]) rfl ?_
  refine Ev.rd (i := (q + 1)) (n := X.1) (pc' := 354) (L' := [some (.ref 0), some (.ref 8), some (.ref 59), some (.int q)]) (st' := [.int (X.2 ((q + 1) : Int32).toNatClampNeg), .ref 8]) h1 rfl ?_
  refine Ev.steps 4 (pc' := 358) (L' := [some (.ref 0), some (.ref 8), some (.ref 59), some (.int q)]) (st' := [.int (q + 2), .ref 0, .int (X.2 ((q + 1) : Int32).toNatClampNeg), .ref 8]) rfl ?_
  refine Ev.rd (i := (q + 2)) (n := X.1) (pc' := 359) (L' := [some (.ref 0), some (.ref 8), some (.ref 59), some (.int q)]) (st' := [.int (X.2 ((q + 2) : Int32).toNatClampNeg), .int (X.2 ((q + 1) : Int32).toNatClampNeg), .ref 8]) h2 rfl ?_
  refine Ev.call (y := 165) (args := [.ref 8, .int (X.2 ((q + 1) : Int32).toNatClampNeg), .int (X.2 ((q + 2) : Int32).toNatClampNeg)]) (rest := []) (r := some (.int x)) (h1 := (hs (X, 90, 11875) (jm N1))) rfl r1 ?_
  show Ev 40 309 362 [some (.ref 0), some (.ref 8), some (.ref 59), some (.int q)] [.int x] (hs (X, 90, 11875) (jm N1)) res
  refine Ev.steps 5 (pc' := 367) (L' := [some (.ref 0), some (.ref 8), some (.ref 59), some (.int q)]) (st' := [.int (q + 1), .ref 0, .ref 59, .int x]) rfl ?_
  refine Ev.rd (i := (q + 1)) (n := X.1) (pc' := 368) (L' := [some (.ref 0), some (.ref 8), some (.ref 59), some (.int q)]) (st' := [.int (X.2 ((q + 1) : Int32).toNatClampNeg), .ref 59, .int x]) h1 rfl ?_
  refine Ev.steps 4 (pc' := 372) (L' := [some (.ref 0), some (.ref 8), some (.ref 59), some (.int q)]) (st' := [.int (q + 2), .ref 0, .int (X.2 ((q + 1) : Int32).toNatClampNeg), .ref 59, .int x]) rfl ?_
  refine Ev.rd (i := (q + 2)) (n := X.1) (pc' := 373) (L' := [some (.ref 0), some (.ref 8), some (.ref 59), some (.int q)]) (st' := [.int (X.2 ((q + 2) : Int32).toNatClampNeg), .int (X.2 ((q + 1) : Int32).toNatClampNeg), .ref 59, .int x]) h2 rfl ?_
  refine Ev.call (y := 219) (args := [.ref 59, .int (X.2 ((q + 1) : Int32).toNatClampNeg), .int (X.2 ((q + 2) : Int32).toNatClampNeg)]) (rest := [.int x]) (r := some (.int x)) (h1 := (hs (X, 90, 11875) (jm N2))) rfl r2 ?_
  show Ev 40 309 376 [some (.ref 0), some (.ref 8), some (.ref 59), some (.int q)] [.int x, .int x] (hs (X, 90, 11875) (jm N2)) res
  refine Ev.sw (p := if x = x then 1531 else 379) (pc' := 1531) (L' := [some (.ref 0), some (.ref 8), some (.ref 59), some (.int q)]) (st' := []) rfl (if_pos rfl) ?_
  exact hres
set_option maxRecDepth 100000 in
theorem lc5 {X : Nat × (Nat → Int32)} {q : Int32} {P : Pic} {N : NM} (hI : GInv P N) (h1 : inb (q + 1) X.1) (h2 : inb (q + 2) X.1) (h3 : inb (q + 3) X.1) (h4 : inb (q + 4) X.1) : ∃ P' N', GInv P' N' ∧ ∀ res, Ev 40 309 1531 [some (.ref 0), some (.ref 8), some (.ref 59), some (.int q)] [] (hs (X, 90, 11875) (jm N')) res → Ev 40 309 381 [some (.ref 0), some (.ref 8), some (.ref 59), some (.int q)] [] (hs (X, 90, 11875) (jm N)) res := by
  by_cases hv : (X.2 (q + 2 : Int32).toNatClampNeg) = 0
  · obtain ⟨r, P2, N1, N2, r1, r2, hI2⟩ := op_lay (E := (X, 90, 11875)) (x1 := Int32.toInt (X.2 (q + 1 : Int32).toNatClampNeg)) (x2 := 0) hI (R_toInt _) (Or.inl rfl)
    simp only [J_toInt, ← jl_0] at r1 r2
    obtain ⟨x, rfl⟩ := rn_int (m := 166) rfl r1
    refine ⟨P2, N2, hI2, fun res hres => ?_⟩
    refine Ev.steps 5 (pc' := 386) (L' := [some (.ref 0), some (.ref 8), some (.ref 59), some (.int q)]) (st' := [.int (q + 1), .ref 0, .ref 8]) rfl ?_
    refine Ev.rd (i := (q + 1)) (n := X.1) (pc' := 387) (L' := [some (.ref 0), some (.ref 8), some (.ref 59), some (.int q)]) (st' := [.int (X.2 ((q + 1) : Int32).toNatClampNeg), .ref 8]) h1 rfl ?_
    refine Ev.steps 4 (pc' := 391) (L' := [some (.ref 0), some (.ref 8), some (.ref 59), some (.int q)]) (st' := [.int (q + 2), .ref 0, .int (X.2 ((q + 1) : Int32).toNatClampNeg), .ref 8]) rfl ?_
    refine Ev.rd (i := (q + 2)) (n := X.1) (pc' := 392) (L' := [some (.ref 0), some (.ref 8), some (.ref 59), some (.int q)]) (st' := [.int (X.2 ((q + 2) : Int32).toNatClampNeg), .int (X.2 ((q + 1) : Int32).toNatClampNeg), .ref 8]) h2 rfl ?_
    refine Ev.sw (p := if (X.2 ((q + 2) : Int32).toNatClampNeg) = 0 then 399 else 395) (pc' := 399) (L' := [some (.ref 0), some (.ref 8), some (.ref 59), some (.int q)]) (st' := [.int (X.2 ((q + 1) : Int32).toNatClampNeg), .ref 8]) rfl (if_pos hv) ?_
    refine Ev.steps 1 (pc' := 400) (L' := [some (.ref 0), some (.ref 8), some (.ref 59), some (.int q)]) (st' := [.int 0, .int (X.2 ((q + 1) : Int32).toNatClampNeg), .ref 8]) rfl ?_
    refine Ev.call (y := 166) (args := [.ref 8, .int (X.2 ((q + 1) : Int32).toNatClampNeg), .int 0]) (rest := []) (r := some (.int x)) (h1 := (hs (X, 90, 11875) (jm N1))) rfl r1 ?_
    show Ev 40 309 403 [some (.ref 0), some (.ref 8), some (.ref 59), some (.int q)] [.int x] (hs (X, 90, 11875) (jm N1)) res
    refine Ev.steps 5 (pc' := 408) (L' := [some (.ref 0), some (.ref 8), some (.ref 59), some (.int q)]) (st' := [.int (q + 1), .ref 0, .ref 59, .int x]) rfl ?_
    refine Ev.rd (i := (q + 1)) (n := X.1) (pc' := 409) (L' := [some (.ref 0), some (.ref 8), some (.ref 59), some (.int q)]) (st' := [.int (X.2 ((q + 1) : Int32).toNatClampNeg), .ref 59, .int x]) h1 rfl ?_
    refine Ev.steps 4 (pc' := 413) (L' := [some (.ref 0), some (.ref 8), some (.ref 59), some (.int q)]) (st' := [.int (q + 2), .ref 0, .int (X.2 ((q + 1) : Int32).toNatClampNeg), .ref 59, .int x]) rfl ?_
    refine Ev.rd (i := (q + 2)) (n := X.1) (pc' := 414) (L' := [some (.ref 0), some (.ref 8), some (.ref 59), some (.int q)]) (st' := [.int (X.2 ((q + 2) : Int32).toNatClampNeg), .int (X.2 ((q + 1) : Int32).toNatClampNeg), .ref 59, .int x]) h2 rfl ?_
    refine Ev.sw (p := if (X.2 ((q + 2) : Int32).toNatClampNeg) = 0 then 421 else 417) (pc' := 421) (L' := [some (.ref 0), some (.ref 8), some (.ref 59), some (.int q)]) (st' := [.int (X.2 ((q + 1) : Int32).toNatClampNeg), .ref 59, .int x]) rfl (if_pos hv) ?_
    refine Ev.steps 1 (pc' := 422) (L' := [some (.ref 0), some (.ref 8), some (.ref 59), some (.int q)]) (st' := [.int 0, .int (X.2 ((q + 1) : Int32).toNatClampNeg), .ref 59, .int x]) rfl ?_
    refine Ev.call (y := 221) (args := [.ref 59, .int (X.2 ((q + 1) : Int32).toNatClampNeg), .int 0]) (rest := [.int x]) (r := some (.int x)) (h1 := (hs (X, 90, 11875) (jm N2))) rfl r2 ?_
    show Ev 40 309 425 [some (.ref 0), some (.ref 8), some (.ref 59), some (.int q)] [.int x, .int x] (hs (X, 90, 11875) (jm N2)) res
    refine Ev.sw (p := if x = x then 1531 else 428) (pc' := 1531) (L' := [some (.ref 0), some (.ref 8), some (.ref 59), some (.int q)]) (st' := []) rfl (if_pos rfl) ?_
    exact hres
  · obtain ⟨r, P2, N1, N2, r1, r2, hI2⟩ := op_lay (E := (X, 90, 11875)) (x1 := Int32.toInt (X.2 (q + 1 : Int32).toNatClampNeg)) (x2 := 1) hI (R_toInt _) (Or.inr rfl)
    simp only [J_toInt, ← jl_1] at r1 r2
    obtain ⟨x, rfl⟩ := rn_int (m := 166) rfl r1
    refine ⟨P2, N2, hI2, fun res hres => ?_⟩
    refine Ev.steps 5 (pc' := 386) (L' := [some (.ref 0), some (.ref 8), some (.ref 59), some (.int q)]) (st' := [.int (q + 1), .ref 0, .ref 8]) rfl ?_
    refine Ev.rd (i := (q + 1)) (n := X.1) (pc' := 387) (L' := [some (.ref 0), some (.ref 8), some (.ref 59), some (.int q)]) (st' := [.int (X.2 ((q + 1) : Int32).toNatClampNeg), .ref 8]) h1 rfl ?_
    refine Ev.steps 4 (pc' := 391) (L' := [some (.ref 0), some (.ref 8), some (.ref 59), some (.int q)]) (st' := [.int (q + 2), .ref 0, .int (X.2 ((q + 1) : Int32).toNatClampNeg), .ref 8]) rfl ?_
    refine Ev.rd (i := (q + 2)) (n := X.1) (pc' := 392) (L' := [some (.ref 0), some (.ref 8), some (.ref 59), some (.int q)]) (st' := [.int (X.2 ((q + 2) : Int32).toNatClampNeg), .int (X.2 ((q + 1) : Int32).toNatClampNeg), .ref 8]) h2 rfl ?_
    refine Ev.sw (p := if (X.2 ((q + 2) : Int32).toNatClampNeg) = 0 then 399 else 395) (pc' := 395) (L' := [some (.ref 0), some (.ref 8), some (.ref 59), some (.int q)]) (st' := [.int (X.2 ((q + 1) : Int32).toNatClampNeg), .ref 8]) rfl (if_neg hv) ?_
    refine Ev.steps 2 (pc' := 400) (L' := [some (.ref 0), some (.ref 8), some (.ref 59), some (.int q)]) (st' := [.int 1, .int (X.2 ((q + 1) : Int32).toNatClampNeg), .ref 8]) rfl ?_
    refine Ev.call (y := 166) (args := [.ref 8, .int (X.2 ((q + 1) : Int32).toNatClampNeg), .int 1]) (rest := []) (r := some (.int x)) (h1 := (hs (X, 90, 11875) (jm N1))) rfl r1 ?_
    show Ev 40 309 403 [some (.ref 0), some (.ref 8), some (.ref 59), some (.int q)] [.int x] (hs (X, 90, 11875) (jm N1)) res
    refine Ev.steps 5 (pc' := 408) (L' := [some (.ref 0), some (.ref 8), some (.ref 59), some (.int q)]) (st' := [.int (q + 1), .ref 0, .ref 59, .int x]) rfl ?_
    refine Ev.rd (i := (q + 1)) (n := X.1) (pc' := 409) (L' := [some (.ref 0), some (.ref 8), some (.ref 59), some (.int q)]) (st' := [.int (X.2 ((q + 1) : Int32).toNatClampNeg), .ref 59, .int x]) h1 rfl ?_
    refine Ev.steps 4 (pc' := 413) (L' := [some (.ref 0), some (.ref 8), some (.ref 59), some (.int q)]) (st' := [.int (q + 2), .ref 0, .int (X.2 ((q + 1) : Int32).toNatClampNeg), .ref 59, .int x]) rfl ?_
    refine Ev.rd (i := (q + 2)) (n := X.1) (pc' := 414) (L' := [some (.ref 0), some (.ref 8), some (.ref 59), some (.int q)]) (st' := [.int (X.2 ((q + 2) : Int32).toNatClampNeg), .int (X.2 ((q + 1) : Int32).toNatClampNeg), .ref 59, .int x]) h2 rfl ?_
    refine Ev.sw (p := if (X.2 ((q + 2) : Int32).toNatClampNeg) = 0 then 421 else 417) (pc' := 417) (L' := [some (.ref 0), some (.ref 8), some (.ref 59), some (.int q)]) (st' := [.int (X.2 ((q + 1) : Int32).toNatClampNeg), .ref 59, .int x]) rfl (if_neg hv) ?_
    refine Ev.steps 2 (pc' := 422) (L' := [some (.ref 0), some (.ref 8), some (.ref 59), some (.int q)]) (st' := [.int 1, .int (X.2 ((q + 1) : Int32).toNatClampNeg), .ref 59, .int x]) rfl ?_
    refine Ev.call (y := 221) (args := [.ref 59, .int (X.2 ((q + 1) : Int32).toNatClampNeg), .int 1]) (rest := [.int x]) (r := some (.int x)) (h1 := (hs (X, 90, 11875) (jm N2))) rfl r2 ?_
    show Ev 40 309 425 [some (.ref 0), some (.ref 8), some (.ref 59), some (.int q)] [.int x, .int x] (hs (X, 90, 11875) (jm N2)) res
    refine Ev.sw (p := if x = x then 1531 else 428) (pc' := 1531) (L' := [some (.ref 0), some (.ref 8), some (.ref 59), some (.int q)]) (st' := []) rfl (if_pos rfl) ?_
    exact hres
set_option maxRecDepth 100000 in
theorem lc6 {X : Nat × (Nat → Int32)} {q : Int32} {P : Pic} {N : NM} (hI : GInv P N) (h1 : inb (q + 1) X.1) (h2 : inb (q + 2) X.1) (h3 : inb (q + 3) X.1) (h4 : inb (q + 4) X.1) : ∃ P' N', GInv P' N' ∧ ∀ res, Ev 40 309 1531 [some (.ref 0), some (.ref 8), some (.ref 59), some (.int q)] [] (hs (X, 90, 11875) (jm N')) res → Ev 40 309 430 [some (.ref 0), some (.ref 8), some (.ref 59), some (.int q)] [] (hs (X, 90, 11875) (jm N)) res := by
  by_cases hv : (X.2 (q + 2 : Int32).toNatClampNeg) = 0
  · obtain ⟨r, P2, N1, N2, r1, r2, hI2⟩ := op_solder (E := (X, 90, 11875)) (x1 := Int32.toInt (X.2 (q + 1 : Int32).toNatClampNeg)) (x2 := 0) hI (R_toInt _) (Or.inl rfl)
    simp only [J_toInt, ← jl_0] at r1 r2
    obtain ⟨x, rfl⟩ := rn_int (m := 167) rfl r1
    refine ⟨P2, N2, hI2, fun res hres => ?_⟩
    refine Ev.steps 5 (pc' := 435) (L' := [some (.ref 0), some (.ref 8), some (.ref 59), some (.int q)]) (st' := [.int (q + 1), .ref 0, .ref 8]) rfl ?_
    refine Ev.rd (i := (q + 1)) (n := X.1) (pc' := 436) (L' := [some (.ref 0), some (.ref 8), some (.ref 59), some (.int q)]) (st' := [.int (X.2 ((q + 1) : Int32).toNatClampNeg), .ref 8]) h1 rfl ?_
    refine Ev.steps 4 (pc' := 440) (L' := [some (.ref 0), some (.ref 8), some (.ref 59), some (.int q)]) (st' := [.int (q + 2), .ref 0, .int (X.2 ((q + 1) : Int32).toNatClampNeg), .ref 8]) rfl ?_
    refine Ev.rd (i := (q + 2)) (n := X.1) (pc' := 441) (L' := [some (.ref 0), some (.ref 8), some (.ref 59), some (.int q)]) (st' := [.int (X.2 ((q + 2) : Int32).toNatClampNeg), .int (X.2 ((q + 1) : Int32).toNatClampNeg), .ref 8]) h2 rfl ?_
    refine Ev.sw (p := if (X.2 ((q + 2) : Int32).toNatClampNeg) = 0 then 448 else 444) (pc' := 448) (L' := [some (.ref 0), some (.ref 8), some (.ref 59), some (.int q)]) (st' := [.int (X.2 ((q + 1) : Int32).toNatClampNeg), .ref 8]) rfl (if_pos hv) ?_
    refine Ev.steps 1 (pc' := 449) (L' := [some (.ref 0), some (.ref 8), some (.ref 59), some (.int q)]) (st' := [.int 0, .int (X.2 ((q + 1) : Int32).toNatClampNeg), .ref 8]) rfl ?_
    refine Ev.call (y := 167) (args := [.ref 8, .int (X.2 ((q + 1) : Int32).toNatClampNeg), .int 0]) (rest := []) (r := some (.int x)) (h1 := (hs (X, 90, 11875) (jm N1))) rfl r1 ?_
    show Ev 40 309 452 [some (.ref 0), some (.ref 8), some (.ref 59), some (.int q)] [.int x] (hs (X, 90, 11875) (jm N1)) res
    refine Ev.steps 5 (pc' := 457) (L' := [some (.ref 0), some (.ref 8), some (.ref 59), some (.int q)]) (st' := [.int (q + 1), .ref 0, .ref 59, .int x]) rfl ?_
    refine Ev.rd (i := (q + 1)) (n := X.1) (pc' := 458) (L' := [some (.ref 0), some (.ref 8), some (.ref 59), some (.int q)]) (st' := [.int (X.2 ((q + 1) : Int32).toNatClampNeg), .ref 59, .int x]) h1 rfl ?_
    refine Ev.steps 4 (pc' := 462) (L' := [some (.ref 0), some (.ref 8), some (.ref 59), some (.int q)]) (st' := [.int (q + 2), .ref 0, .int (X.2 ((q + 1) : Int32).toNatClampNeg), .ref 59, .int x]) rfl ?_
    refine Ev.rd (i := (q + 2)) (n := X.1) (pc' := 463) (L' := [some (.ref 0), some (.ref 8), some (.ref 59), some (.int q)]) (st' := [.int (X.2 ((q + 2) : Int32).toNatClampNeg), .int (X.2 ((q + 1) : Int32).toNatClampNeg), .ref 59, .int x]) h2 rfl ?_
    refine Ev.sw (p := if (X.2 ((q + 2) : Int32).toNatClampNeg) = 0 then 470 else 466) (pc' := 470) (L' := [some (.ref 0), some (.ref 8), some (.ref 59), some (.int q)]) (st' := [.int (X.2 ((q + 1) : Int32).toNatClampNeg), .ref 59, .int x]) rfl (if_pos hv) ?_
    refine Ev.steps 1 (pc' := 471) (L' := [some (.ref 0), some (.ref 8), some (.ref 59), some (.int q)]) (st' := [.int 0, .int (X.2 ((q + 1) : Int32).toNatClampNeg), .ref 59, .int x]) rfl ?_
    refine Ev.call (y := 222) (args := [.ref 59, .int (X.2 ((q + 1) : Int32).toNatClampNeg), .int 0]) (rest := [.int x]) (r := some (.int x)) (h1 := (hs (X, 90, 11875) (jm N2))) rfl r2 ?_
    show Ev 40 309 474 [some (.ref 0), some (.ref 8), some (.ref 59), some (.int q)] [.int x, .int x] (hs (X, 90, 11875) (jm N2)) res
    refine Ev.sw (p := if x = x then 1531 else 477) (pc' := 1531) (L' := [some (.ref 0), some (.ref 8), some (.ref 59), some (.int q)]) (st' := []) rfl (if_pos rfl) ?_
    exact hres
  · obtain ⟨r, P2, N1, N2, r1, r2, hI2⟩ := op_solder (E := (X, 90, 11875)) (x1 := Int32.toInt (X.2 (q + 1 : Int32).toNatClampNeg)) (x2 := 1) hI (R_toInt _) (Or.inr rfl)
    simp only [J_toInt, ← jl_1] at r1 r2
    obtain ⟨x, rfl⟩ := rn_int (m := 167) rfl r1
    refine ⟨P2, N2, hI2, fun res hres => ?_⟩
    refine Ev.steps 5 (pc' := 435) (L' := [some (.ref 0), some (.ref 8), some (.ref 59), some (.int q)]) (st' := [.int (q + 1), .ref 0, .ref 8]) rfl ?_
    refine Ev.rd (i := (q + 1)) (n := X.1) (pc' := 436) (L' := [some (.ref 0), some (.ref 8), some (.ref 59), some (.int q)]) (st' := [.int (X.2 ((q + 1) : Int32).toNatClampNeg), .ref 8]) h1 rfl ?_
    refine Ev.steps 4 (pc' := 440) (L' := [some (.ref 0), some (.ref 8), some (.ref 59), some (.int q)]) (st' := [.int (q + 2), .ref 0, .int (X.2 ((q + 1) : Int32).toNatClampNeg), .ref 8]) rfl ?_
    refine Ev.rd (i := (q + 2)) (n := X.1) (pc' := 441) (L' := [some (.ref 0), some (.ref 8), some (.ref 59), some (.int q)]) (st' := [.int (X.2 ((q + 2) : Int32).toNatClampNeg), .int (X.2 ((q + 1) : Int32).toNatClampNeg), .ref 8]) h2 rfl ?_
    refine Ev.sw (p := if (X.2 ((q + 2) : Int32).toNatClampNeg) = 0 then 448 else 444) (pc' := 444) (L' := [some (.ref 0), some (.ref 8), some (.ref 59), some (.int q)]) (st' := [.int (X.2 ((q + 1) : Int32).toNatClampNeg), .ref 8]) rfl (if_neg hv) ?_
    refine Ev.steps 2 (pc' := 449) (L' := [some (.ref 0), some (.ref 8), some (.ref 59), some (.int q)]) (st' := [.int 1, .int (X.2 ((q + 1) : Int32).toNatClampNeg), .ref 8]) rfl ?_
    refine Ev.call (y := 167) (args := [.ref 8, .int (X.2 ((q + 1) : Int32).toNatClampNeg), .int 1]) (rest := []) (r := some (.int x)) (h1 := (hs (X, 90, 11875) (jm N1))) rfl r1 ?_
    show Ev 40 309 452 [some (.ref 0), some (.ref 8), some (.ref 59), some (.int q)] [.int x] (hs (X, 90, 11875) (jm N1)) res
    refine Ev.steps 5 (pc' := 457) (L' := [some (.ref 0), some (.ref 8), some (.ref 59), some (.int q)]) (st' := [.int (q + 1), .ref 0, .ref 59, .int x]) rfl ?_
    refine Ev.rd (i := (q + 1)) (n := X.1) (pc' := 458) (L' := [some (.ref 0), some (.ref 8), some (.ref 59), some (.int q)]) (st' := [.int (X.2 ((q + 1) : Int32).toNatClampNeg), .ref 59, .int x]) h1 rfl ?_
    refine Ev.steps 4 (pc' := 462) (L' := [some (.ref 0), some (.ref 8), some (.ref 59), some (.int q)]) (st' := [.int (q + 2), .ref 0, .int (X.2 ((q + 1) : Int32).toNatClampNeg), .ref 59, .int x]) rfl ?_
    refine Ev.rd (i := (q + 2)) (n := X.1) (pc' := 463) (L' := [some (.ref 0), some (.ref 8), some (.ref 59), some (.int q)]) (st' := [.int (X.2 ((q + 2) : Int32).toNatClampNeg), .int (X.2 ((q + 1) : Int32).toNatClampNeg), .ref 59, .int x]) h2 rfl ?_
    refine Ev.sw (p := if (X.2 ((q + 2) : Int32).toNatClampNeg) = 0 then 470 else 466) (pc' := 466) (L' := [some (.ref 0), some (.ref 8), some (.ref 59), some (.int q)]) (st' := [.int (X.2 ((q + 1) : Int32).toNatClampNeg), .ref 59, .int x]) rfl (if_neg hv) ?_
    refine Ev.steps 2 (pc' := 471) (L' := [some (.ref 0), some (.ref 8), some (.ref 59), some (.int q)]) (st' := [.int 1, .int (X.2 ((q + 1) : Int32).toNatClampNeg), .ref 59, .int x]) rfl ?_
    refine Ev.call (y := 222) (args := [.ref 59, .int (X.2 ((q + 1) : Int32).toNatClampNeg), .int 1]) (rest := [.int x]) (r := some (.int x)) (h1 := (hs (X, 90, 11875) (jm N2))) rfl r2 ?_
    show Ev 40 309 474 [some (.ref 0), some (.ref 8), some (.ref 59), some (.int q)] [.int x, .int x] (hs (X, 90, 11875) (jm N2)) res
    refine Ev.sw (p := if x = x then 1531 else 477) (pc' := 1531) (L' := [some (.ref 0), some (.ref 8), some (.ref 59), some (.int q)]) (st' := []) rfl (if_pos rfl) ?_
    exact hres
set_option maxRecDepth 100000 in
theorem lc7 {X : Nat × (Nat → Int32)} {q : Int32} {P : Pic} {N : NM} (hI : GInv P N) (h1 : inb (q + 1) X.1) (h2 : inb (q + 2) X.1) (h3 : inb (q + 3) X.1) (h4 : inb (q + 4) X.1) : ∃ P' N', GInv P' N' ∧ ∀ res, Ev 40 309 1531 [some (.ref 0), some (.ref 8), some (.ref 59), some (.int q)] [] (hs (X, 90, 11875) (jm N')) res → Ev 40 309 479 [some (.ref 0), some (.ref 8), some (.ref 59), some (.int q)] [] (hs (X, 90, 11875) (jm N)) res := by
  obtain ⟨r, P2, N1, N2, r1, r2, hI2⟩ := op_about (E := (X, 90, 11875)) (x1 := Int32.toInt (X.2 (q + 1 : Int32).toNatClampNeg)) (x2 := Int32.toInt (X.2 (q + 2 : Int32).toNatClampNeg)) hI (R_toInt _) (R_toInt _)
  simp only [J_toInt] at r1 r2
  obtain ⟨x, rfl⟩ := rn_int (m := 168) rfl r1
  refine ⟨P2, N2, hI2, fun res hres => ?_⟩
  refine Ev.steps 5 (pc' := 484) (L' := [some (.ref 0), some (.ref 8), some (.ref 59), some (.int q)]) (st' := [.int (q + 1), .ref 0, .ref 8]) rfl ?_
  refine Ev.rd (i := (q + 1)) (n := X.1) (pc' := 485) (L' := [some (.ref 0), some (.ref 8), some (.ref 59), some (.int q)]) (st' := [.int (X.2 ((q + 1) : Int32).toNatClampNeg), .ref 8]) h1 rfl ?_
  refine Ev.steps 4 (pc' := 489) (L' := [some (.ref 0), some (.ref 8), some (.ref 59), some (.int q)]) (st' := [.int (q + 2), .ref 0, .int (X.2 ((q + 1) : Int32).toNatClampNeg), .ref 8]) rfl ?_
  refine Ev.rd (i := (q + 2)) (n := X.1) (pc' := 490) (L' := [some (.ref 0), some (.ref 8), some (.ref 59), some (.int q)]) (st' := [.int (X.2 ((q + 2) : Int32).toNatClampNeg), .int (X.2 ((q + 1) : Int32).toNatClampNeg), .ref 8]) h2 rfl ?_
  refine Ev.call (y := 168) (args := [.ref 8, .int (X.2 ((q + 1) : Int32).toNatClampNeg), .int (X.2 ((q + 2) : Int32).toNatClampNeg)]) (rest := []) (r := some (.int x)) (h1 := (hs (X, 90, 11875) (jm N1))) rfl r1 ?_
  show Ev 40 309 493 [some (.ref 0), some (.ref 8), some (.ref 59), some (.int q)] [.int x] (hs (X, 90, 11875) (jm N1)) res
  refine Ev.steps 5 (pc' := 498) (L' := [some (.ref 0), some (.ref 8), some (.ref 59), some (.int q)]) (st' := [.int (q + 1), .ref 0, .ref 59, .int x]) rfl ?_
  refine Ev.rd (i := (q + 1)) (n := X.1) (pc' := 499) (L' := [some (.ref 0), some (.ref 8), some (.ref 59), some (.int q)]) (st' := [.int (X.2 ((q + 1) : Int32).toNatClampNeg), .ref 59, .int x]) h1 rfl ?_
  refine Ev.steps 4 (pc' := 503) (L' := [some (.ref 0), some (.ref 8), some (.ref 59), some (.int q)]) (st' := [.int (q + 2), .ref 0, .int (X.2 ((q + 1) : Int32).toNatClampNeg), .ref 59, .int x]) rfl ?_
  refine Ev.rd (i := (q + 2)) (n := X.1) (pc' := 504) (L' := [some (.ref 0), some (.ref 8), some (.ref 59), some (.int q)]) (st' := [.int (X.2 ((q + 2) : Int32).toNatClampNeg), .int (X.2 ((q + 1) : Int32).toNatClampNeg), .ref 59, .int x]) h2 rfl ?_
  refine Ev.call (y := 231) (args := [.ref 59, .int (X.2 ((q + 1) : Int32).toNatClampNeg), .int (X.2 ((q + 2) : Int32).toNatClampNeg)]) (rest := [.int x]) (r := some (.int x)) (h1 := (hs (X, 90, 11875) (jm N2))) rfl r2 ?_
  show Ev 40 309 507 [some (.ref 0), some (.ref 8), some (.ref 59), some (.int q)] [.int x, .int x] (hs (X, 90, 11875) (jm N2)) res
  refine Ev.sw (p := if x = x then 1531 else 510) (pc' := 1531) (L' := [some (.ref 0), some (.ref 8), some (.ref 59), some (.int q)]) (st' := []) rfl (if_pos rfl) ?_
  exact hres
set_option maxRecDepth 100000 in
theorem lc8 {X : Nat × (Nat → Int32)} {q : Int32} {P : Pic} {N : NM} (hI : GInv P N) (h1 : inb (q + 1) X.1) (h2 : inb (q + 2) X.1) (h3 : inb (q + 3) X.1) (h4 : inb (q + 4) X.1) : ∃ P' N', GInv P' N' ∧ ∀ res, Ev 40 309 1531 [some (.ref 0), some (.ref 8), some (.ref 59), some (.int q)] [] (hs (X, 90, 11875) (jm N')) res → Ev 40 309 512 [some (.ref 0), some (.ref 8), some (.ref 59), some (.int q)] [] (hs (X, 90, 11875) (jm N)) res := by
  obtain ⟨r, P2, N1, N2, r1, r2, hI2⟩ := op_point (E := (X, 90, 11875)) (x1 := Int32.toInt (X.2 (q + 1 : Int32).toNatClampNeg)) (x2 := Int32.toInt (X.2 (q + 2 : Int32).toNatClampNeg)) hI (R_toInt _) (R_toInt _)
  simp only [J_toInt] at r1 r2
  obtain ⟨x, rfl⟩ := rn_int (m := 169) rfl r1
  refine ⟨P2, N2, hI2, fun res hres => ?_⟩
  refine Ev.steps 5 (pc' := 517) (L' := [some (.ref 0), some (.ref 8), some (.ref 59), some (.int q)]) (st' := [.int (q + 1), .ref 0, .ref 8]) rfl ?_
  refine Ev.rd (i := (q + 1)) (n := X.1) (pc' := 518) (L' := [some (.ref 0), some (.ref 8), some (.ref 59), some (.int q)]) (st' := [.int (X.2 ((q + 1) : Int32).toNatClampNeg), .ref 8]) h1 rfl ?_
  refine Ev.steps 4 (pc' := 522) (L' := [some (.ref 0), some (.ref 8), some (.ref 59), some (.int q)]) (st' := [.int (q + 2), .ref 0, .int (X.2 ((q + 1) : Int32).toNatClampNeg), .ref 8]) rfl ?_
  refine Ev.rd (i := (q + 2)) (n := X.1) (pc' := 523) (L' := [some (.ref 0), some (.ref 8), some (.ref 59), some (.int q)]) (st' := [.int (X.2 ((q + 2) : Int32).toNatClampNeg), .int (X.2 ((q + 1) : Int32).toNatClampNeg), .ref 8]) h2 rfl ?_
  refine Ev.call (y := 169) (args := [.ref 8, .int (X.2 ((q + 1) : Int32).toNatClampNeg), .int (X.2 ((q + 2) : Int32).toNatClampNeg)]) (rest := []) (r := some (.int x)) (h1 := (hs (X, 90, 11875) (jm N1))) rfl r1 ?_
  show Ev 40 309 526 [some (.ref 0), some (.ref 8), some (.ref 59), some (.int q)] [.int x] (hs (X, 90, 11875) (jm N1)) res
  refine Ev.steps 5 (pc' := 531) (L' := [some (.ref 0), some (.ref 8), some (.ref 59), some (.int q)]) (st' := [.int (q + 1), .ref 0, .ref 59, .int x]) rfl ?_
  refine Ev.rd (i := (q + 1)) (n := X.1) (pc' := 532) (L' := [some (.ref 0), some (.ref 8), some (.ref 59), some (.int q)]) (st' := [.int (X.2 ((q + 1) : Int32).toNatClampNeg), .ref 59, .int x]) h1 rfl ?_
  refine Ev.steps 4 (pc' := 536) (L' := [some (.ref 0), some (.ref 8), some (.ref 59), some (.int q)]) (st' := [.int (q + 2), .ref 0, .int (X.2 ((q + 1) : Int32).toNatClampNeg), .ref 59, .int x]) rfl ?_
  refine Ev.rd (i := (q + 2)) (n := X.1) (pc' := 537) (L' := [some (.ref 0), some (.ref 8), some (.ref 59), some (.int q)]) (st' := [.int (X.2 ((q + 2) : Int32).toNatClampNeg), .int (X.2 ((q + 1) : Int32).toNatClampNeg), .ref 59, .int x]) h2 rfl ?_
  refine Ev.call (y := 232) (args := [.ref 59, .int (X.2 ((q + 1) : Int32).toNatClampNeg), .int (X.2 ((q + 2) : Int32).toNatClampNeg)]) (rest := [.int x]) (r := some (.int x)) (h1 := (hs (X, 90, 11875) (jm N2))) rfl r2 ?_
  show Ev 40 309 540 [some (.ref 0), some (.ref 8), some (.ref 59), some (.int q)] [.int x, .int x] (hs (X, 90, 11875) (jm N2)) res
  refine Ev.sw (p := if x = x then 1531 else 543) (pc' := 1531) (L' := [some (.ref 0), some (.ref 8), some (.ref 59), some (.int q)]) (st' := []) rfl (if_pos rfl) ?_
  exact hres
set_option maxRecDepth 100000 in
theorem lc9 {X : Nat × (Nat → Int32)} {q : Int32} {P : Pic} {N : NM} (hI : GInv P N) (h1 : inb (q + 1) X.1) (h2 : inb (q + 2) X.1) (h3 : inb (q + 3) X.1) (h4 : inb (q + 4) X.1) : ∃ P' N', GInv P' N' ∧ ∀ res, Ev 40 309 1531 [some (.ref 0), some (.ref 8), some (.ref 59), some (.int q)] [] (hs (X, 90, 11875) (jm N')) res → Ev 40 309 545 [some (.ref 0), some (.ref 8), some (.ref 59), some (.int q)] [] (hs (X, 90, 11875) (jm N)) res := by
  obtain ⟨r, P2, N1, N2, r1, r2, hI2⟩ := op_covers (E := (X, 90, 11875)) (x1 := Int32.toInt (X.2 (q + 1 : Int32).toNatClampNeg)) (x2 := Int32.toInt (X.2 (q + 2 : Int32).toNatClampNeg)) (x3 := Int32.toInt (X.2 (q + 3 : Int32).toNatClampNeg)) hI (R_toInt _) (R_toInt _) (R_toInt _)
  simp only [J_toInt] at r1 r2
  obtain ⟨x, rfl⟩ := rn_int (m := 170) rfl r1
  refine ⟨P2, N2, hI2, fun res hres => ?_⟩
  refine Ev.steps 5 (pc' := 550) (L' := [some (.ref 0), some (.ref 8), some (.ref 59), some (.int q)]) (st' := [.int (q + 1), .ref 0, .ref 8]) rfl ?_
  refine Ev.rd (i := (q + 1)) (n := X.1) (pc' := 551) (L' := [some (.ref 0), some (.ref 8), some (.ref 59), some (.int q)]) (st' := [.int (X.2 ((q + 1) : Int32).toNatClampNeg), .ref 8]) h1 rfl ?_
  refine Ev.steps 4 (pc' := 555) (L' := [some (.ref 0), some (.ref 8), some (.ref 59), some (.int q)]) (st' := [.int (q + 2), .ref 0, .int (X.2 ((q + 1) : Int32).toNatClampNeg), .ref 8]) rfl ?_
  refine Ev.rd (i := (q + 2)) (n := X.1) (pc' := 556) (L' := [some (.ref 0), some (.ref 8), some (.ref 59), some (.int q)]) (st' := [.int (X.2 ((q + 2) : Int32).toNatClampNeg), .int (X.2 ((q + 1) : Int32).toNatClampNeg), .ref 8]) h2 rfl ?_
  refine Ev.steps 4 (pc' := 560) (L' := [some (.ref 0), some (.ref 8), some (.ref 59), some (.int q)]) (st' := [.int (q + 3), .ref 0, .int (X.2 ((q + 2) : Int32).toNatClampNeg), .int (X.2 ((q + 1) : Int32).toNatClampNeg), .ref 8]) rfl ?_
  refine Ev.rd (i := (q + 3)) (n := X.1) (pc' := 561) (L' := [some (.ref 0), some (.ref 8), some (.ref 59), some (.int q)]) (st' := [.int (X.2 ((q + 3) : Int32).toNatClampNeg), .int (X.2 ((q + 2) : Int32).toNatClampNeg), .int (X.2 ((q + 1) : Int32).toNatClampNeg), .ref 8]) h3 rfl ?_
  refine Ev.call (y := 170) (args := [.ref 8, .int (X.2 ((q + 1) : Int32).toNatClampNeg), .int (X.2 ((q + 2) : Int32).toNatClampNeg), .int (X.2 ((q + 3) : Int32).toNatClampNeg)]) (rest := []) (r := some (.int x)) (h1 := (hs (X, 90, 11875) (jm N1))) rfl r1 ?_
  show Ev 40 309 564 [some (.ref 0), some (.ref 8), some (.ref 59), some (.int q)] [.int x] (hs (X, 90, 11875) (jm N1)) res
  refine Ev.steps 5 (pc' := 569) (L' := [some (.ref 0), some (.ref 8), some (.ref 59), some (.int q)]) (st' := [.int (q + 1), .ref 0, .ref 59, .int x]) rfl ?_
  refine Ev.rd (i := (q + 1)) (n := X.1) (pc' := 570) (L' := [some (.ref 0), some (.ref 8), some (.ref 59), some (.int q)]) (st' := [.int (X.2 ((q + 1) : Int32).toNatClampNeg), .ref 59, .int x]) h1 rfl ?_
  refine Ev.steps 4 (pc' := 574) (L' := [some (.ref 0), some (.ref 8), some (.ref 59), some (.int q)]) (st' := [.int (q + 2), .ref 0, .int (X.2 ((q + 1) : Int32).toNatClampNeg), .ref 59, .int x]) rfl ?_
  refine Ev.rd (i := (q + 2)) (n := X.1) (pc' := 575) (L' := [some (.ref 0), some (.ref 8), some (.ref 59), some (.int q)]) (st' := [.int (X.2 ((q + 2) : Int32).toNatClampNeg), .int (X.2 ((q + 1) : Int32).toNatClampNeg), .ref 59, .int x]) h2 rfl ?_
  refine Ev.steps 4 (pc' := 579) (L' := [some (.ref 0), some (.ref 8), some (.ref 59), some (.int q)]) (st' := [.int (q + 3), .ref 0, .int (X.2 ((q + 2) : Int32).toNatClampNeg), .int (X.2 ((q + 1) : Int32).toNatClampNeg), .ref 59, .int x]) rfl ?_
  refine Ev.rd (i := (q + 3)) (n := X.1) (pc' := 580) (L' := [some (.ref 0), some (.ref 8), some (.ref 59), some (.int q)]) (st' := [.int (X.2 ((q + 3) : Int32).toNatClampNeg), .int (X.2 ((q + 2) : Int32).toNatClampNeg), .int (X.2 ((q + 1) : Int32).toNatClampNeg), .ref 59, .int x]) h3 rfl ?_
  refine Ev.call (y := 236) (args := [.ref 59, .int (X.2 ((q + 1) : Int32).toNatClampNeg), .int (X.2 ((q + 2) : Int32).toNatClampNeg), .int (X.2 ((q + 3) : Int32).toNatClampNeg)]) (rest := [.int x]) (r := some (.int x)) (h1 := (hs (X, 90, 11875) (jm N2))) rfl r2 ?_
  show Ev 40 309 583 [some (.ref 0), some (.ref 8), some (.ref 59), some (.int q)] [.int x, .int x] (hs (X, 90, 11875) (jm N2)) res
  refine Ev.sw (p := if x = x then 1531 else 586) (pc' := 1531) (L' := [some (.ref 0), some (.ref 8), some (.ref 59), some (.int q)]) (st' := []) rfl (if_pos rfl) ?_
  exact hres
set_option maxRecDepth 100000 in
theorem lc10 {X : Nat × (Nat → Int32)} {q : Int32} {P : Pic} {N : NM} (hI : GInv P N) (h1 : inb (q + 1) X.1) (h2 : inb (q + 2) X.1) (h3 : inb (q + 3) X.1) (h4 : inb (q + 4) X.1) : ∃ P' N', GInv P' N' ∧ ∀ res, Ev 40 309 1531 [some (.ref 0), some (.ref 8), some (.ref 59), some (.int q)] [] (hs (X, 90, 11875) (jm N')) res → Ev 40 309 588 [some (.ref 0), some (.ref 8), some (.ref 59), some (.int q)] [] (hs (X, 90, 11875) (jm N)) res := by
  obtain ⟨r, P2, N1, N2, r1, r2, hI2⟩ := op_many (E := (X, 90, 11875)) (x1 := Int32.toInt (X.2 (q + 1 : Int32).toNatClampNeg)) hI (R_toInt _)
  simp only [J_toInt] at r1 r2
  obtain ⟨x, rfl⟩ := rn_int (m := 171) rfl r1
  refine ⟨P2, N2, hI2, fun res hres => ?_⟩
  refine Ev.steps 5 (pc' := 593) (L' := [some (.ref 0), some (.ref 8), some (.ref 59), some (.int q)]) (st' := [.int (q + 1), .ref 0, .ref 8]) rfl ?_
  refine Ev.rd (i := (q + 1)) (n := X.1) (pc' := 594) (L' := [some (.ref 0), some (.ref 8), some (.ref 59), some (.int q)]) (st' := [.int (X.2 ((q + 1) : Int32).toNatClampNeg), .ref 8]) h1 rfl ?_
  refine Ev.call (y := 171) (args := [.ref 8, .int (X.2 ((q + 1) : Int32).toNatClampNeg)]) (rest := []) (r := some (.int x)) (h1 := (hs (X, 90, 11875) (jm N1))) rfl r1 ?_
  show Ev 40 309 597 [some (.ref 0), some (.ref 8), some (.ref 59), some (.int q)] [.int x] (hs (X, 90, 11875) (jm N1)) res
  refine Ev.steps 5 (pc' := 602) (L' := [some (.ref 0), some (.ref 8), some (.ref 59), some (.int q)]) (st' := [.int (q + 1), .ref 0, .ref 59, .int x]) rfl ?_
  refine Ev.rd (i := (q + 1)) (n := X.1) (pc' := 603) (L' := [some (.ref 0), some (.ref 8), some (.ref 59), some (.int q)]) (st' := [.int (X.2 ((q + 1) : Int32).toNatClampNeg), .ref 59, .int x]) h1 rfl ?_
  refine Ev.call (y := 250) (args := [.ref 59, .int (X.2 ((q + 1) : Int32).toNatClampNeg)]) (rest := [.int x]) (r := some (.int x)) (h1 := (hs (X, 90, 11875) (jm N2))) rfl r2 ?_
  show Ev 40 309 606 [some (.ref 0), some (.ref 8), some (.ref 59), some (.int q)] [.int x, .int x] (hs (X, 90, 11875) (jm N2)) res
  refine Ev.sw (p := if x = x then 1531 else 609) (pc' := 1531) (L' := [some (.ref 0), some (.ref 8), some (.ref 59), some (.int q)]) (st' := []) rfl (if_pos rfl) ?_
  exact hres
set_option maxRecDepth 100000 in
theorem lc11 {X : Nat × (Nat → Int32)} {q : Int32} {P : Pic} {N : NM} (hI : GInv P N) (h1 : inb (q + 1) X.1) (h2 : inb (q + 2) X.1) (h3 : inb (q + 3) X.1) (h4 : inb (q + 4) X.1) : ∃ P' N', GInv P' N' ∧ ∀ res, Ev 40 309 1531 [some (.ref 0), some (.ref 8), some (.ref 59), some (.int q)] [] (hs (X, 90, 11875) (jm N')) res → Ev 40 309 611 [some (.ref 0), some (.ref 8), some (.ref 59), some (.int q)] [] (hs (X, 90, 11875) (jm N)) res := by
  obtain ⟨r, P2, N1, N2, r1, r2, hI2⟩ := op_end (E := (X, 90, 11875)) (x1 := Int32.toInt (X.2 (q + 1 : Int32).toNatClampNeg)) (x2 := Int32.toInt (X.2 (q + 2 : Int32).toNatClampNeg)) hI (R_toInt _) (R_toInt _)
  simp only [J_toInt] at r1 r2
  obtain ⟨x, rfl⟩ := rn_int (m := 172) rfl r1
  refine ⟨P2, N2, hI2, fun res hres => ?_⟩
  refine Ev.steps 5 (pc' := 616) (L' := [some (.ref 0), some (.ref 8), some (.ref 59), some (.int q)]) (st' := [.int (q + 1), .ref 0, .ref 8]) rfl ?_
  refine Ev.rd (i := (q + 1)) (n := X.1) (pc' := 617) (L' := [some (.ref 0), some (.ref 8), some (.ref 59), some (.int q)]) (st' := [.int (X.2 ((q + 1) : Int32).toNatClampNeg), .ref 8]) h1 rfl ?_
  refine Ev.steps 4 (pc' := 621) (L' := [some (.ref 0), some (.ref 8), some (.ref 59), some (.int q)]) (st' := [.int (q + 2), .ref 0, .int (X.2 ((q + 1) : Int32).toNatClampNeg), .ref 8]) rfl ?_
  refine Ev.rd (i := (q + 2)) (n := X.1) (pc' := 622) (L' := [some (.ref 0), some (.ref 8), some (.ref 59), some (.int q)]) (st' := [.int (X.2 ((q + 2) : Int32).toNatClampNeg), .int (X.2 ((q + 1) : Int32).toNatClampNeg), .ref 8]) h2 rfl ?_
  refine Ev.call (y := 172) (args := [.ref 8, .int (X.2 ((q + 1) : Int32).toNatClampNeg), .int (X.2 ((q + 2) : Int32).toNatClampNeg)]) (rest := []) (r := some (.int x)) (h1 := (hs (X, 90, 11875) (jm N1))) rfl r1 ?_
  show Ev 40 309 625 [some (.ref 0), some (.ref 8), some (.ref 59), some (.int q)] [.int x] (hs (X, 90, 11875) (jm N1)) res
  refine Ev.steps 5 (pc' := 630) (L' := [some (.ref 0), some (.ref 8), some (.ref 59), some (.int q)]) (st' := [.int (q + 1), .ref 0, .ref 59, .int x]) rfl ?_
  refine Ev.rd (i := (q + 1)) (n := X.1) (pc' := 631) (L' := [some (.ref 0), some (.ref 8), some (.ref 59), some (.int q)]) (st' := [.int (X.2 ((q + 1) : Int32).toNatClampNeg), .ref 59, .int x]) h1 rfl ?_
  refine Ev.steps 4 (pc' := 635) (L' := [some (.ref 0), some (.ref 8), some (.ref 59), some (.int q)]) (st' := [.int (q + 2), .ref 0, .int (X.2 ((q + 1) : Int32).toNatClampNeg), .ref 59, .int x]) rfl ?_
  refine Ev.rd (i := (q + 2)) (n := X.1) (pc' := 636) (L' := [some (.ref 0), some (.ref 8), some (.ref 59), some (.int q)]) (st' := [.int (X.2 ((q + 2) : Int32).toNatClampNeg), .int (X.2 ((q + 1) : Int32).toNatClampNeg), .ref 59, .int x]) h2 rfl ?_
  refine Ev.call (y := 251) (args := [.ref 59, .int (X.2 ((q + 1) : Int32).toNatClampNeg), .int (X.2 ((q + 2) : Int32).toNatClampNeg)]) (rest := [.int x]) (r := some (.int x)) (h1 := (hs (X, 90, 11875) (jm N2))) rfl r2 ?_
  show Ev 40 309 639 [some (.ref 0), some (.ref 8), some (.ref 59), some (.int q)] [.int x, .int x] (hs (X, 90, 11875) (jm N2)) res
  refine Ev.sw (p := if x = x then 1531 else 642) (pc' := 1531) (L' := [some (.ref 0), some (.ref 8), some (.ref 59), some (.int q)]) (st' := []) rfl (if_pos rfl) ?_
  exact hres
set_option maxRecDepth 100000 in
theorem lc12 {X : Nat × (Nat → Int32)} {q : Int32} {P : Pic} {N : NM} (hI : GInv P N) (h1 : inb (q + 1) X.1) (h2 : inb (q + 2) X.1) (h3 : inb (q + 3) X.1) (h4 : inb (q + 4) X.1) : ∃ P' N', GInv P' N' ∧ ∀ res, Ev 40 309 1531 [some (.ref 0), some (.ref 8), some (.ref 59), some (.int q)] [] (hs (X, 90, 11875) (jm N')) res → Ev 40 309 644 [some (.ref 0), some (.ref 8), some (.ref 59), some (.int q)] [] (hs (X, 90, 11875) (jm N)) res := by
  obtain ⟨r, P2, N1, N2, r1, r2, hI2⟩ := op_cell (E := (X, 90, 11875)) (x1 := Int32.toInt (X.2 (q + 1 : Int32).toNatClampNeg)) (x2 := Int32.toInt (X.2 (q + 2 : Int32).toNatClampNeg)) hI (R_toInt _) (R_toInt _)
  simp only [J_toInt] at r1 r2
  obtain ⟨x, rfl⟩ := rn_int (m := 173) rfl r1
  refine ⟨P2, N2, hI2, fun res hres => ?_⟩
  refine Ev.steps 5 (pc' := 649) (L' := [some (.ref 0), some (.ref 8), some (.ref 59), some (.int q)]) (st' := [.int (q + 1), .ref 0, .ref 8]) rfl ?_
  refine Ev.rd (i := (q + 1)) (n := X.1) (pc' := 650) (L' := [some (.ref 0), some (.ref 8), some (.ref 59), some (.int q)]) (st' := [.int (X.2 ((q + 1) : Int32).toNatClampNeg), .ref 8]) h1 rfl ?_
  refine Ev.steps 4 (pc' := 654) (L' := [some (.ref 0), some (.ref 8), some (.ref 59), some (.int q)]) (st' := [.int (q + 2), .ref 0, .int (X.2 ((q + 1) : Int32).toNatClampNeg), .ref 8]) rfl ?_
  refine Ev.rd (i := (q + 2)) (n := X.1) (pc' := 655) (L' := [some (.ref 0), some (.ref 8), some (.ref 59), some (.int q)]) (st' := [.int (X.2 ((q + 2) : Int32).toNatClampNeg), .int (X.2 ((q + 1) : Int32).toNatClampNeg), .ref 8]) h2 rfl ?_
  refine Ev.call (y := 173) (args := [.ref 8, .int (X.2 ((q + 1) : Int32).toNatClampNeg), .int (X.2 ((q + 2) : Int32).toNatClampNeg)]) (rest := []) (r := some (.int x)) (h1 := (hs (X, 90, 11875) (jm N1))) rfl r1 ?_
  show Ev 40 309 658 [some (.ref 0), some (.ref 8), some (.ref 59), some (.int q)] [.int x] (hs (X, 90, 11875) (jm N1)) res
  refine Ev.steps 5 (pc' := 663) (L' := [some (.ref 0), some (.ref 8), some (.ref 59), some (.int q)]) (st' := [.int (q + 1), .ref 0, .ref 59, .int x]) rfl ?_
  refine Ev.rd (i := (q + 1)) (n := X.1) (pc' := 664) (L' := [some (.ref 0), some (.ref 8), some (.ref 59), some (.int q)]) (st' := [.int (X.2 ((q + 1) : Int32).toNatClampNeg), .ref 59, .int x]) h1 rfl ?_
  refine Ev.steps 4 (pc' := 668) (L' := [some (.ref 0), some (.ref 8), some (.ref 59), some (.int q)]) (st' := [.int (q + 2), .ref 0, .int (X.2 ((q + 1) : Int32).toNatClampNeg), .ref 59, .int x]) rfl ?_
  refine Ev.rd (i := (q + 2)) (n := X.1) (pc' := 669) (L' := [some (.ref 0), some (.ref 8), some (.ref 59), some (.int q)]) (st' := [.int (X.2 ((q + 2) : Int32).toNatClampNeg), .int (X.2 ((q + 1) : Int32).toNatClampNeg), .ref 59, .int x]) h2 rfl ?_
  refine Ev.call (y := 252) (args := [.ref 59, .int (X.2 ((q + 1) : Int32).toNatClampNeg), .int (X.2 ((q + 2) : Int32).toNatClampNeg)]) (rest := [.int x]) (r := some (.int x)) (h1 := (hs (X, 90, 11875) (jm N2))) rfl r2 ?_
  show Ev 40 309 672 [some (.ref 0), some (.ref 8), some (.ref 59), some (.int q)] [.int x, .int x] (hs (X, 90, 11875) (jm N2)) res
  refine Ev.sw (p := if x = x then 1531 else 675) (pc' := 1531) (L' := [some (.ref 0), some (.ref 8), some (.ref 59), some (.int q)]) (st' := []) rfl (if_pos rfl) ?_
  exact hres
set_option maxRecDepth 100000 in
theorem lc13 {X : Nat × (Nat → Int32)} {q : Int32} {P : Pic} {N : NM} (hI : GInv P N) (h1 : inb (q + 1) X.1) (h2 : inb (q + 2) X.1) (h3 : inb (q + 3) X.1) (h4 : inb (q + 4) X.1) : ∃ P' N', GInv P' N' ∧ ∀ res, Ev 40 309 1531 [some (.ref 0), some (.ref 8), some (.ref 59), some (.int q)] [] (hs (X, 90, 11875) (jm N')) res → Ev 40 309 677 [some (.ref 0), some (.ref 8), some (.ref 59), some (.int q)] [] (hs (X, 90, 11875) (jm N)) res := by
  obtain ⟨r, P2, N1, N2, r1, r2, hI2⟩ := op_size (E := (X, 90, 11875)) (x1 := Int32.toInt (X.2 (q + 1 : Int32).toNatClampNeg)) hI (R_toInt _)
  simp only [J_toInt] at r1 r2
  obtain ⟨x, rfl⟩ := rn_int (m := 174) rfl r1
  refine ⟨P2, N2, hI2, fun res hres => ?_⟩
  refine Ev.steps 5 (pc' := 682) (L' := [some (.ref 0), some (.ref 8), some (.ref 59), some (.int q)]) (st' := [.int (q + 1), .ref 0, .ref 8]) rfl ?_
  refine Ev.rd (i := (q + 1)) (n := X.1) (pc' := 683) (L' := [some (.ref 0), some (.ref 8), some (.ref 59), some (.int q)]) (st' := [.int (X.2 ((q + 1) : Int32).toNatClampNeg), .ref 8]) h1 rfl ?_
  refine Ev.call (y := 174) (args := [.ref 8, .int (X.2 ((q + 1) : Int32).toNatClampNeg)]) (rest := []) (r := some (.int x)) (h1 := (hs (X, 90, 11875) (jm N1))) rfl r1 ?_
  show Ev 40 309 686 [some (.ref 0), some (.ref 8), some (.ref 59), some (.int q)] [.int x] (hs (X, 90, 11875) (jm N1)) res
  refine Ev.steps 5 (pc' := 691) (L' := [some (.ref 0), some (.ref 8), some (.ref 59), some (.int q)]) (st' := [.int (q + 1), .ref 0, .ref 59, .int x]) rfl ?_
  refine Ev.rd (i := (q + 1)) (n := X.1) (pc' := 692) (L' := [some (.ref 0), some (.ref 8), some (.ref 59), some (.int q)]) (st' := [.int (X.2 ((q + 1) : Int32).toNatClampNeg), .ref 59, .int x]) h1 rfl ?_
  refine Ev.call (y := 253) (args := [.ref 59, .int (X.2 ((q + 1) : Int32).toNatClampNeg)]) (rest := [.int x]) (r := some (.int x)) (h1 := (hs (X, 90, 11875) (jm N2))) rfl r2 ?_
  show Ev 40 309 695 [some (.ref 0), some (.ref 8), some (.ref 59), some (.int q)] [.int x, .int x] (hs (X, 90, 11875) (jm N2)) res
  refine Ev.sw (p := if x = x then 1531 else 698) (pc' := 1531) (L' := [some (.ref 0), some (.ref 8), some (.ref 59), some (.int q)]) (st' := []) rfl (if_pos rfl) ?_
  exact hres
set_option maxRecDepth 100000 in
theorem lc14 {X : Nat × (Nat → Int32)} {q : Int32} {P : Pic} {N : NM} (hI : GInv P N) (h1 : inb (q + 1) X.1) (h2 : inb (q + 2) X.1) (h3 : inb (q + 3) X.1) (h4 : inb (q + 4) X.1) : ∃ P' N', GInv P' N' ∧ ∀ res, Ev 40 309 1531 [some (.ref 0), some (.ref 8), some (.ref 59), some (.int q)] [] (hs (X, 90, 11875) (jm N')) res → Ev 40 309 700 [some (.ref 0), some (.ref 8), some (.ref 59), some (.int q)] [] (hs (X, 90, 11875) (jm N)) res := by
  obtain ⟨r, P2, N1, N2, r1, r2, hI2⟩ := op_paints (E := (X, 90, 11875))  hI 
  obtain ⟨x, rfl⟩ := rn_int (m := 175) rfl r1
  refine ⟨P2, N2, hI2, fun res hres => ?_⟩
  refine Ev.steps 1 (pc' := 701) (L' := [some (.ref 0), some (.ref 8), some (.ref 59), some (.int q)]) (st' := [.ref 8]) rfl ?_
  refine Ev.call (y := 175) (args := [.ref 8]) (rest := []) (r := some (.int x)) (h1 := (hs (X, 90, 11875) (jm N1))) rfl r1 ?_
  show Ev 40 309 704 [some (.ref 0), some (.ref 8), some (.ref 59), some (.int q)] [.int x] (hs (X, 90, 11875) (jm N1)) res
  refine Ev.steps 1 (pc' := 705) (L' := [some (.ref 0), some (.ref 8), some (.ref 59), some (.int q)]) (st' := [.ref 59, .int x]) rfl ?_
  refine Ev.call (y := 259) (args := [.ref 59]) (rest := [.int x]) (r := some (.int x)) (h1 := (hs (X, 90, 11875) (jm N2))) rfl r2 ?_
  show Ev 40 309 708 [some (.ref 0), some (.ref 8), some (.ref 59), some (.int q)] [.int x, .int x] (hs (X, 90, 11875) (jm N2)) res
  refine Ev.sw (p := if x = x then 1531 else 711) (pc' := 1531) (L' := [some (.ref 0), some (.ref 8), some (.ref 59), some (.int q)]) (st' := []) rfl (if_pos rfl) ?_
  exact hres
set_option maxRecDepth 100000 in
theorem lc15 {X : Nat × (Nat → Int32)} {q : Int32} {P : Pic} {N : NM} (hI : GInv P N) (h1 : inb (q + 1) X.1) (h2 : inb (q + 2) X.1) (h3 : inb (q + 3) X.1) (h4 : inb (q + 4) X.1) : ∃ P' N', GInv P' N' ∧ ∀ res, Ev 40 309 1531 [some (.ref 0), some (.ref 8), some (.ref 59), some (.int q)] [] (hs (X, 90, 11875) (jm N')) res → Ev 40 309 713 [some (.ref 0), some (.ref 8), some (.ref 59), some (.int q)] [] (hs (X, 90, 11875) (jm N)) res := by
  obtain ⟨r, P2, N1, N2, r1, r2, hI2⟩ := op_paint (E := (X, 90, 11875)) (x1 := Int32.toInt (X.2 (q + 1 : Int32).toNatClampNeg)) hI (R_toInt _)
  simp only [J_toInt] at r1 r2
  obtain ⟨x, rfl⟩ := rn_int (m := 176) rfl r1
  refine ⟨P2, N2, hI2, fun res hres => ?_⟩
  refine Ev.steps 5 (pc' := 718) (L' := [some (.ref 0), some (.ref 8), some (.ref 59), some (.int q)]) (st' := [.int (q + 1), .ref 0, .ref 8]) rfl ?_
  refine Ev.rd (i := (q + 1)) (n := X.1) (pc' := 719) (L' := [some (.ref 0), some (.ref 8), some (.ref 59), some (.int q)]) (st' := [.int (X.2 ((q + 1) : Int32).toNatClampNeg), .ref 8]) h1 rfl ?_
  refine Ev.call (y := 176) (args := [.ref 8, .int (X.2 ((q + 1) : Int32).toNatClampNeg)]) (rest := []) (r := some (.int x)) (h1 := (hs (X, 90, 11875) (jm N1))) rfl r1 ?_
  show Ev 40 309 722 [some (.ref 0), some (.ref 8), some (.ref 59), some (.int q)] [.int x] (hs (X, 90, 11875) (jm N1)) res
  refine Ev.steps 5 (pc' := 727) (L' := [some (.ref 0), some (.ref 8), some (.ref 59), some (.int q)]) (st' := [.int (q + 1), .ref 0, .ref 59, .int x]) rfl ?_
  refine Ev.rd (i := (q + 1)) (n := X.1) (pc' := 728) (L' := [some (.ref 0), some (.ref 8), some (.ref 59), some (.int q)]) (st' := [.int (X.2 ((q + 1) : Int32).toNatClampNeg), .ref 59, .int x]) h1 rfl ?_
  refine Ev.call (y := 260) (args := [.ref 59, .int (X.2 ((q + 1) : Int32).toNatClampNeg)]) (rest := [.int x]) (r := some (.int x)) (h1 := (hs (X, 90, 11875) (jm N2))) rfl r2 ?_
  show Ev 40 309 731 [some (.ref 0), some (.ref 8), some (.ref 59), some (.int q)] [.int x, .int x] (hs (X, 90, 11875) (jm N2)) res
  refine Ev.sw (p := if x = x then 1531 else 734) (pc' := 1531) (L' := [some (.ref 0), some (.ref 8), some (.ref 59), some (.int q)]) (st' := []) rfl (if_pos rfl) ?_
  exact hres
set_option maxRecDepth 100000 in
theorem lc16 {X : Nat × (Nat → Int32)} {q : Int32} {P : Pic} {N : NM} (hI : GInv P N) (h1 : inb (q + 1) X.1) (h2 : inb (q + 2) X.1) (h3 : inb (q + 3) X.1) (h4 : inb (q + 4) X.1) : ∃ P' N', GInv P' N' ∧ ∀ res, Ev 40 309 1531 [some (.ref 0), some (.ref 8), some (.ref 59), some (.int q)] [] (hs (X, 90, 11875) (jm N')) res → Ev 40 309 736 [some (.ref 0), some (.ref 8), some (.ref 59), some (.int q)] [] (hs (X, 90, 11875) (jm N)) res := by
  obtain ⟨r, P2, N1, N2, r1, r2, hI2⟩ := op_colour (E := (X, 90, 11875)) (x1 := Int32.toInt (X.2 (q + 1 : Int32).toNatClampNeg)) (x2 := Int32.toInt (X.2 (q + 2 : Int32).toNatClampNeg)) (x3 := Int32.toInt (X.2 (q + 3 : Int32).toNatClampNeg)) hI (R_toInt _) (R_toInt _) (R_toInt _)
  simp only [J_toInt] at r1 r2
  obtain ⟨x, rfl⟩ := rn_int (m := 177) rfl r1
  refine ⟨P2, N2, hI2, fun res hres => ?_⟩
  refine Ev.steps 5 (pc' := 741) (L' := [some (.ref 0), some (.ref 8), some (.ref 59), some (.int q)]) (st' := [.int (q + 1), .ref 0, .ref 8]) rfl ?_
  refine Ev.rd (i := (q + 1)) (n := X.1) (pc' := 742) (L' := [some (.ref 0), some (.ref 8), some (.ref 59), some (.int q)]) (st' := [.int (X.2 ((q + 1) : Int32).toNatClampNeg), .ref 8]) h1 rfl ?_
  refine Ev.steps 4 (pc' := 746) (L' := [some (.ref 0), some (.ref 8), some (.ref 59), some (.int q)]) (st' := [.int (q + 2), .ref 0, .int (X.2 ((q + 1) : Int32).toNatClampNeg), .ref 8]) rfl ?_
  refine Ev.rd (i := (q + 2)) (n := X.1) (pc' := 747) (L' := [some (.ref 0), some (.ref 8), some (.ref 59), some (.int q)]) (st' := [.int (X.2 ((q + 2) : Int32).toNatClampNeg), .int (X.2 ((q + 1) : Int32).toNatClampNeg), .ref 8]) h2 rfl ?_
  refine Ev.steps 4 (pc' := 751) (L' := [some (.ref 0), some (.ref 8), some (.ref 59), some (.int q)]) (st' := [.int (q + 3), .ref 0, .int (X.2 ((q + 2) : Int32).toNatClampNeg), .int (X.2 ((q + 1) : Int32).toNatClampNeg), .ref 8]) rfl ?_
  refine Ev.rd (i := (q + 3)) (n := X.1) (pc' := 752) (L' := [some (.ref 0), some (.ref 8), some (.ref 59), some (.int q)]) (st' := [.int (X.2 ((q + 3) : Int32).toNatClampNeg), .int (X.2 ((q + 2) : Int32).toNatClampNeg), .int (X.2 ((q + 1) : Int32).toNatClampNeg), .ref 8]) h3 rfl ?_
  refine Ev.call (y := 177) (args := [.ref 8, .int (X.2 ((q + 1) : Int32).toNatClampNeg), .int (X.2 ((q + 2) : Int32).toNatClampNeg), .int (X.2 ((q + 3) : Int32).toNatClampNeg)]) (rest := []) (r := some (.int x)) (h1 := (hs (X, 90, 11875) (jm N1))) rfl r1 ?_
  show Ev 40 309 755 [some (.ref 0), some (.ref 8), some (.ref 59), some (.int q)] [.int x] (hs (X, 90, 11875) (jm N1)) res
  refine Ev.steps 5 (pc' := 760) (L' := [some (.ref 0), some (.ref 8), some (.ref 59), some (.int q)]) (st' := [.int (q + 1), .ref 0, .ref 59, .int x]) rfl ?_
  refine Ev.rd (i := (q + 1)) (n := X.1) (pc' := 761) (L' := [some (.ref 0), some (.ref 8), some (.ref 59), some (.int q)]) (st' := [.int (X.2 ((q + 1) : Int32).toNatClampNeg), .ref 59, .int x]) h1 rfl ?_
  refine Ev.steps 4 (pc' := 765) (L' := [some (.ref 0), some (.ref 8), some (.ref 59), some (.int q)]) (st' := [.int (q + 2), .ref 0, .int (X.2 ((q + 1) : Int32).toNatClampNeg), .ref 59, .int x]) rfl ?_
  refine Ev.rd (i := (q + 2)) (n := X.1) (pc' := 766) (L' := [some (.ref 0), some (.ref 8), some (.ref 59), some (.int q)]) (st' := [.int (X.2 ((q + 2) : Int32).toNatClampNeg), .int (X.2 ((q + 1) : Int32).toNatClampNeg), .ref 59, .int x]) h2 rfl ?_
  refine Ev.steps 4 (pc' := 770) (L' := [some (.ref 0), some (.ref 8), some (.ref 59), some (.int q)]) (st' := [.int (q + 3), .ref 0, .int (X.2 ((q + 2) : Int32).toNatClampNeg), .int (X.2 ((q + 1) : Int32).toNatClampNeg), .ref 59, .int x]) rfl ?_
  refine Ev.rd (i := (q + 3)) (n := X.1) (pc' := 771) (L' := [some (.ref 0), some (.ref 8), some (.ref 59), some (.int q)]) (st' := [.int (X.2 ((q + 3) : Int32).toNatClampNeg), .int (X.2 ((q + 2) : Int32).toNatClampNeg), .int (X.2 ((q + 1) : Int32).toNatClampNeg), .ref 59, .int x]) h3 rfl ?_
  refine Ev.call (y := 262) (args := [.ref 59, .int (X.2 ((q + 1) : Int32).toNatClampNeg), .int (X.2 ((q + 2) : Int32).toNatClampNeg), .int (X.2 ((q + 3) : Int32).toNatClampNeg)]) (rest := [.int x]) (r := some (.int x)) (h1 := (hs (X, 90, 11875) (jm N2))) rfl r2 ?_
  show Ev 40 309 774 [some (.ref 0), some (.ref 8), some (.ref 59), some (.int q)] [.int x, .int x] (hs (X, 90, 11875) (jm N2)) res
  refine Ev.sw (p := if x = x then 1531 else 777) (pc' := 1531) (L' := [some (.ref 0), some (.ref 8), some (.ref 59), some (.int q)]) (st' := []) rfl (if_pos rfl) ?_
  exact hres
set_option maxRecDepth 100000 in
theorem lc17 {X : Nat × (Nat → Int32)} {q : Int32} {P : Pic} {N : NM} (hI : GInv P N) (h1 : inb (q + 1) X.1) (h2 : inb (q + 2) X.1) (h3 : inb (q + 3) X.1) (h4 : inb (q + 4) X.1) : ∃ P' N', GInv P' N' ∧ ∀ res, Ev 40 309 1531 [some (.ref 0), some (.ref 8), some (.ref 59), some (.int q)] [] (hs (X, 90, 11875) (jm N')) res → Ev 40 309 779 [some (.ref 0), some (.ref 8), some (.ref 59), some (.int q)] [] (hs (X, 90, 11875) (jm N)) res := by
  by_cases hv : (X.2 (q + 3 : Int32).toNatClampNeg) = 0
  · obtain ⟨r, P2, N1, N2, r1, r2, hI2⟩ := op_foes (E := (X, 90, 11875)) (x1 := Int32.toInt (X.2 (q + 1 : Int32).toNatClampNeg)) (x2 := Int32.toInt (X.2 (q + 2 : Int32).toNatClampNeg)) (x3 := 0) hI (R_toInt _) (R_toInt _) (Or.inl rfl)
    simp only [J_toInt, ← jl_0] at r1 r2
    obtain ⟨x, rfl⟩ := rn_int (m := 178) rfl r1
    refine ⟨P2, N2, hI2, fun res hres => ?_⟩
    refine Ev.steps 5 (pc' := 784) (L' := [some (.ref 0), some (.ref 8), some (.ref 59), some (.int q)]) (st' := [.int (q + 1), .ref 0, .ref 8]) rfl ?_
    refine Ev.rd (i := (q + 1)) (n := X.1) (pc' := 785) (L' := [some (.ref 0), some (.ref 8), some (.ref 59), some (.int q)]) (st' := [.int (X.2 ((q + 1) : Int32).toNatClampNeg), .ref 8]) h1 rfl ?_
    refine Ev.steps 4 (pc' := 789) (L' := [some (.ref 0), some (.ref 8), some (.ref 59), some (.int q)]) (st' := [.int (q + 2), .ref 0, .int (X.2 ((q + 1) : Int32).toNatClampNeg), .ref 8]) rfl ?_
    refine Ev.rd (i := (q + 2)) (n := X.1) (pc' := 790) (L' := [some (.ref 0), some (.ref 8), some (.ref 59), some (.int q)]) (st' := [.int (X.2 ((q + 2) : Int32).toNatClampNeg), .int (X.2 ((q + 1) : Int32).toNatClampNeg), .ref 8]) h2 rfl ?_
    refine Ev.steps 4 (pc' := 794) (L' := [some (.ref 0), some (.ref 8), some (.ref 59), some (.int q)]) (st' := [.int (q + 3), .ref 0, .int (X.2 ((q + 2) : Int32).toNatClampNeg), .int (X.2 ((q + 1) : Int32).toNatClampNeg), .ref 8]) rfl ?_
    refine Ev.rd (i := (q + 3)) (n := X.1) (pc' := 795) (L' := [some (.ref 0), some (.ref 8), some (.ref 59), some (.int q)]) (st' := [.int (X.2 ((q + 3) : Int32).toNatClampNeg), .int (X.2 ((q + 2) : Int32).toNatClampNeg), .int (X.2 ((q + 1) : Int32).toNatClampNeg), .ref 8]) h3 rfl ?_
    refine Ev.sw (p := if (X.2 ((q + 3) : Int32).toNatClampNeg) = 0 then 802 else 798) (pc' := 802) (L' := [some (.ref 0), some (.ref 8), some (.ref 59), some (.int q)]) (st' := [.int (X.2 ((q + 2) : Int32).toNatClampNeg), .int (X.2 ((q + 1) : Int32).toNatClampNeg), .ref 8]) rfl (if_pos hv) ?_
    refine Ev.steps 1 (pc' := 803) (L' := [some (.ref 0), some (.ref 8), some (.ref 59), some (.int q)]) (st' := [.int 0, .int (X.2 ((q + 2) : Int32).toNatClampNeg), .int (X.2 ((q + 1) : Int32).toNatClampNeg), .ref 8]) rfl ?_
    refine Ev.call (y := 178) (args := [.ref 8, .int (X.2 ((q + 1) : Int32).toNatClampNeg), .int (X.2 ((q + 2) : Int32).toNatClampNeg), .int 0]) (rest := []) (r := some (.int x)) (h1 := (hs (X, 90, 11875) (jm N1))) rfl r1 ?_
    show Ev 40 309 806 [some (.ref 0), some (.ref 8), some (.ref 59), some (.int q)] [.int x] (hs (X, 90, 11875) (jm N1)) res
    refine Ev.steps 5 (pc' := 811) (L' := [some (.ref 0), some (.ref 8), some (.ref 59), some (.int q)]) (st' := [.int (q + 1), .ref 0, .ref 59, .int x]) rfl ?_
    refine Ev.rd (i := (q + 1)) (n := X.1) (pc' := 812) (L' := [some (.ref 0), some (.ref 8), some (.ref 59), some (.int q)]) (st' := [.int (X.2 ((q + 1) : Int32).toNatClampNeg), .ref 59, .int x]) h1 rfl ?_
    refine Ev.steps 4 (pc' := 816) (L' := [some (.ref 0), some (.ref 8), some (.ref 59), some (.int q)]) (st' := [.int (q + 2), .ref 0, .int (X.2 ((q + 1) : Int32).toNatClampNeg), .ref 59, .int x]) rfl ?_
    refine Ev.rd (i := (q + 2)) (n := X.1) (pc' := 817) (L' := [some (.ref 0), some (.ref 8), some (.ref 59), some (.int q)]) (st' := [.int (X.2 ((q + 2) : Int32).toNatClampNeg), .int (X.2 ((q + 1) : Int32).toNatClampNeg), .ref 59, .int x]) h2 rfl ?_
    refine Ev.steps 4 (pc' := 821) (L' := [some (.ref 0), some (.ref 8), some (.ref 59), some (.int q)]) (st' := [.int (q + 3), .ref 0, .int (X.2 ((q + 2) : Int32).toNatClampNeg), .int (X.2 ((q + 1) : Int32).toNatClampNeg), .ref 59, .int x]) rfl ?_
    refine Ev.rd (i := (q + 3)) (n := X.1) (pc' := 822) (L' := [some (.ref 0), some (.ref 8), some (.ref 59), some (.int q)]) (st' := [.int (X.2 ((q + 3) : Int32).toNatClampNeg), .int (X.2 ((q + 2) : Int32).toNatClampNeg), .int (X.2 ((q + 1) : Int32).toNatClampNeg), .ref 59, .int x]) h3 rfl ?_
    refine Ev.sw (p := if (X.2 ((q + 3) : Int32).toNatClampNeg) = 0 then 829 else 825) (pc' := 829) (L' := [some (.ref 0), some (.ref 8), some (.ref 59), some (.int q)]) (st' := [.int (X.2 ((q + 2) : Int32).toNatClampNeg), .int (X.2 ((q + 1) : Int32).toNatClampNeg), .ref 59, .int x]) rfl (if_pos hv) ?_
    refine Ev.steps 1 (pc' := 830) (L' := [some (.ref 0), some (.ref 8), some (.ref 59), some (.int q)]) (st' := [.int 0, .int (X.2 ((q + 2) : Int32).toNatClampNeg), .int (X.2 ((q + 1) : Int32).toNatClampNeg), .ref 59, .int x]) rfl ?_
    refine Ev.call (y := 263) (args := [.ref 59, .int (X.2 ((q + 1) : Int32).toNatClampNeg), .int (X.2 ((q + 2) : Int32).toNatClampNeg), .int 0]) (rest := [.int x]) (r := some (.int x)) (h1 := (hs (X, 90, 11875) (jm N2))) rfl r2 ?_
    show Ev 40 309 833 [some (.ref 0), some (.ref 8), some (.ref 59), some (.int q)] [.int x, .int x] (hs (X, 90, 11875) (jm N2)) res
    refine Ev.sw (p := if x = x then 1531 else 836) (pc' := 1531) (L' := [some (.ref 0), some (.ref 8), some (.ref 59), some (.int q)]) (st' := []) rfl (if_pos rfl) ?_
    exact hres
  · obtain ⟨r, P2, N1, N2, r1, r2, hI2⟩ := op_foes (E := (X, 90, 11875)) (x1 := Int32.toInt (X.2 (q + 1 : Int32).toNatClampNeg)) (x2 := Int32.toInt (X.2 (q + 2 : Int32).toNatClampNeg)) (x3 := 1) hI (R_toInt _) (R_toInt _) (Or.inr rfl)
    simp only [J_toInt, ← jl_1] at r1 r2
    obtain ⟨x, rfl⟩ := rn_int (m := 178) rfl r1
    refine ⟨P2, N2, hI2, fun res hres => ?_⟩
    refine Ev.steps 5 (pc' := 784) (L' := [some (.ref 0), some (.ref 8), some (.ref 59), some (.int q)]) (st' := [.int (q + 1), .ref 0, .ref 8]) rfl ?_
    refine Ev.rd (i := (q + 1)) (n := X.1) (pc' := 785) (L' := [some (.ref 0), some (.ref 8), some (.ref 59), some (.int q)]) (st' := [.int (X.2 ((q + 1) : Int32).toNatClampNeg), .ref 8]) h1 rfl ?_
    refine Ev.steps 4 (pc' := 789) (L' := [some (.ref 0), some (.ref 8), some (.ref 59), some (.int q)]) (st' := [.int (q + 2), .ref 0, .int (X.2 ((q + 1) : Int32).toNatClampNeg), .ref 8]) rfl ?_
    refine Ev.rd (i := (q + 2)) (n := X.1) (pc' := 790) (L' := [some (.ref 0), some (.ref 8), some (.ref 59), some (.int q)]) (st' := [.int (X.2 ((q + 2) : Int32).toNatClampNeg), .int (X.2 ((q + 1) : Int32).toNatClampNeg), .ref 8]) h2 rfl ?_
    refine Ev.steps 4 (pc' := 794) (L' := [some (.ref 0), some (.ref 8), some (.ref 59), some (.int q)]) (st' := [.int (q + 3), .ref 0, .int (X.2 ((q + 2) : Int32).toNatClampNeg), .int (X.2 ((q + 1) : Int32).toNatClampNeg), .ref 8]) rfl ?_
    refine Ev.rd (i := (q + 3)) (n := X.1) (pc' := 795) (L' := [some (.ref 0), some (.ref 8), some (.ref 59), some (.int q)]) (st' := [.int (X.2 ((q + 3) : Int32).toNatClampNeg), .int (X.2 ((q + 2) : Int32).toNatClampNeg), .int (X.2 ((q + 1) : Int32).toNatClampNeg), .ref 8]) h3 rfl ?_
    refine Ev.sw (p := if (X.2 ((q + 3) : Int32).toNatClampNeg) = 0 then 802 else 798) (pc' := 798) (L' := [some (.ref 0), some (.ref 8), some (.ref 59), some (.int q)]) (st' := [.int (X.2 ((q + 2) : Int32).toNatClampNeg), .int (X.2 ((q + 1) : Int32).toNatClampNeg), .ref 8]) rfl (if_neg hv) ?_
    refine Ev.steps 2 (pc' := 803) (L' := [some (.ref 0), some (.ref 8), some (.ref 59), some (.int q)]) (st' := [.int 1, .int (X.2 ((q + 2) : Int32).toNatClampNeg), .int (X.2 ((q + 1) : Int32).toNatClampNeg), .ref 8]) rfl ?_
    refine Ev.call (y := 178) (args := [.ref 8, .int (X.2 ((q + 1) : Int32).toNatClampNeg), .int (X.2 ((q + 2) : Int32).toNatClampNeg), .int 1]) (rest := []) (r := some (.int x)) (h1 := (hs (X, 90, 11875) (jm N1))) rfl r1 ?_
    show Ev 40 309 806 [some (.ref 0), some (.ref 8), some (.ref 59), some (.int q)] [.int x] (hs (X, 90, 11875) (jm N1)) res
    refine Ev.steps 5 (pc' := 811) (L' := [some (.ref 0), some (.ref 8), some (.ref 59), some (.int q)]) (st' := [.int (q + 1), .ref 0, .ref 59, .int x]) rfl ?_
    refine Ev.rd (i := (q + 1)) (n := X.1) (pc' := 812) (L' := [some (.ref 0), some (.ref 8), some (.ref 59), some (.int q)]) (st' := [.int (X.2 ((q + 1) : Int32).toNatClampNeg), .ref 59, .int x]) h1 rfl ?_
    refine Ev.steps 4 (pc' := 816) (L' := [some (.ref 0), some (.ref 8), some (.ref 59), some (.int q)]) (st' := [.int (q + 2), .ref 0, .int (X.2 ((q + 1) : Int32).toNatClampNeg), .ref 59, .int x]) rfl ?_
    refine Ev.rd (i := (q + 2)) (n := X.1) (pc' := 817) (L' := [some (.ref 0), some (.ref 8), some (.ref 59), some (.int q)]) (st' := [.int (X.2 ((q + 2) : Int32).toNatClampNeg), .int (X.2 ((q + 1) : Int32).toNatClampNeg), .ref 59, .int x]) h2 rfl ?_
    refine Ev.steps 4 (pc' := 821) (L' := [some (.ref 0), some (.ref 8), some (.ref 59), some (.int q)]) (st' := [.int (q + 3), .ref 0, .int (X.2 ((q + 2) : Int32).toNatClampNeg), .int (X.2 ((q + 1) : Int32).toNatClampNeg), .ref 59, .int x]) rfl ?_
    refine Ev.rd (i := (q + 3)) (n := X.1) (pc' := 822) (L' := [some (.ref 0), some (.ref 8), some (.ref 59), some (.int q)]) (st' := [.int (X.2 ((q + 3) : Int32).toNatClampNeg), .int (X.2 ((q + 2) : Int32).toNatClampNeg), .int (X.2 ((q + 1) : Int32).toNatClampNeg), .ref 59, .int x]) h3 rfl ?_
    refine Ev.sw (p := if (X.2 ((q + 3) : Int32).toNatClampNeg) = 0 then 829 else 825) (pc' := 825) (L' := [some (.ref 0), some (.ref 8), some (.ref 59), some (.int q)]) (st' := [.int (X.2 ((q + 2) : Int32).toNatClampNeg), .int (X.2 ((q + 1) : Int32).toNatClampNeg), .ref 59, .int x]) rfl (if_neg hv) ?_
    refine Ev.steps 2 (pc' := 830) (L' := [some (.ref 0), some (.ref 8), some (.ref 59), some (.int q)]) (st' := [.int 1, .int (X.2 ((q + 2) : Int32).toNatClampNeg), .int (X.2 ((q + 1) : Int32).toNatClampNeg), .ref 59, .int x]) rfl ?_
    refine Ev.call (y := 263) (args := [.ref 59, .int (X.2 ((q + 1) : Int32).toNatClampNeg), .int (X.2 ((q + 2) : Int32).toNatClampNeg), .int 1]) (rest := [.int x]) (r := some (.int x)) (h1 := (hs (X, 90, 11875) (jm N2))) rfl r2 ?_
    show Ev 40 309 833 [some (.ref 0), some (.ref 8), some (.ref 59), some (.int q)] [.int x, .int x] (hs (X, 90, 11875) (jm N2)) res
    refine Ev.sw (p := if x = x then 1531 else 836) (pc' := 1531) (L' := [some (.ref 0), some (.ref 8), some (.ref 59), some (.int q)]) (st' := []) rfl (if_pos rfl) ?_
    exact hres
set_option maxRecDepth 100000 in
theorem lc18 {X : Nat × (Nat → Int32)} {q : Int32} {P : Pic} {N : NM} (hI : GInv P N) (h1 : inb (q + 1) X.1) (h2 : inb (q + 2) X.1) (h3 : inb (q + 3) X.1) (h4 : inb (q + 4) X.1) : ∃ P' N', GInv P' N' ∧ ∀ res, Ev 40 309 1531 [some (.ref 0), some (.ref 8), some (.ref 59), some (.int q)] [] (hs (X, 90, 11875) (jm N')) res → Ev 40 309 838 [some (.ref 0), some (.ref 8), some (.ref 59), some (.int q)] [] (hs (X, 90, 11875) (jm N)) res := by
  obtain ⟨r, P2, N1, N2, r1, r2, hI2⟩ := op_rule (E := (X, 90, 11875)) (x1 := Int32.toInt (X.2 (q + 1 : Int32).toNatClampNeg)) (x2 := Int32.toInt (X.2 (q + 2 : Int32).toNatClampNeg)) hI (R_toInt _) (R_toInt _)
  simp only [J_toInt] at r1 r2
  obtain ⟨x, rfl⟩ := rn_int (m := 179) rfl r1
  refine ⟨P2, N2, hI2, fun res hres => ?_⟩
  refine Ev.steps 5 (pc' := 843) (L' := [some (.ref 0), some (.ref 8), some (.ref 59), some (.int q)]) (st' := [.int (q + 1), .ref 0, .ref 8]) rfl ?_
  refine Ev.rd (i := (q + 1)) (n := X.1) (pc' := 844) (L' := [some (.ref 0), some (.ref 8), some (.ref 59), some (.int q)]) (st' := [.int (X.2 ((q + 1) : Int32).toNatClampNeg), .ref 8]) h1 rfl ?_
  refine Ev.steps 4 (pc' := 848) (L' := [some (.ref 0), some (.ref 8), some (.ref 59), some (.int q)]) (st' := [.int (q + 2), .ref 0, .int (X.2 ((q + 1) : Int32).toNatClampNeg), .ref 8]) rfl ?_
  refine Ev.rd (i := (q + 2)) (n := X.1) (pc' := 849) (L' := [some (.ref 0), some (.ref 8), some (.ref 59), some (.int q)]) (st' := [.int (X.2 ((q + 2) : Int32).toNatClampNeg), .int (X.2 ((q + 1) : Int32).toNatClampNeg), .ref 8]) h2 rfl ?_
  refine Ev.call (y := 179) (args := [.ref 8, .int (X.2 ((q + 1) : Int32).toNatClampNeg), .int (X.2 ((q + 2) : Int32).toNatClampNeg)]) (rest := []) (r := some (.int x)) (h1 := (hs (X, 90, 11875) (jm N1))) rfl r1 ?_
  show Ev 40 309 852 [some (.ref 0), some (.ref 8), some (.ref 59), some (.int q)] [.int x] (hs (X, 90, 11875) (jm N1)) res
  refine Ev.steps 5 (pc' := 857) (L' := [some (.ref 0), some (.ref 8), some (.ref 59), some (.int q)]) (st' := [.int (q + 1), .ref 0, .ref 59, .int x]) rfl ?_
  refine Ev.rd (i := (q + 1)) (n := X.1) (pc' := 858) (L' := [some (.ref 0), some (.ref 8), some (.ref 59), some (.int q)]) (st' := [.int (X.2 ((q + 1) : Int32).toNatClampNeg), .ref 59, .int x]) h1 rfl ?_
  refine Ev.steps 4 (pc' := 862) (L' := [some (.ref 0), some (.ref 8), some (.ref 59), some (.int q)]) (st' := [.int (q + 2), .ref 0, .int (X.2 ((q + 1) : Int32).toNatClampNeg), .ref 59, .int x]) rfl ?_
  refine Ev.rd (i := (q + 2)) (n := X.1) (pc' := 863) (L' := [some (.ref 0), some (.ref 8), some (.ref 59), some (.int q)]) (st' := [.int (X.2 ((q + 2) : Int32).toNatClampNeg), .int (X.2 ((q + 1) : Int32).toNatClampNeg), .ref 59, .int x]) h2 rfl ?_
  refine Ev.call (y := 264) (args := [.ref 59, .int (X.2 ((q + 1) : Int32).toNatClampNeg), .int (X.2 ((q + 2) : Int32).toNatClampNeg)]) (rest := [.int x]) (r := some (.int x)) (h1 := (hs (X, 90, 11875) (jm N2))) rfl r2 ?_
  show Ev 40 309 866 [some (.ref 0), some (.ref 8), some (.ref 59), some (.int q)] [.int x, .int x] (hs (X, 90, 11875) (jm N2)) res
  refine Ev.sw (p := if x = x then 1531 else 869) (pc' := 1531) (L' := [some (.ref 0), some (.ref 8), some (.ref 59), some (.int q)]) (st' := []) rfl (if_pos rfl) ?_
  exact hres
set_option maxRecDepth 100000 in
theorem lc19 {X : Nat × (Nat → Int32)} {q : Int32} {P : Pic} {N : NM} (hI : GInv P N) (h1 : inb (q + 1) X.1) (h2 : inb (q + 2) X.1) (h3 : inb (q + 3) X.1) (h4 : inb (q + 4) X.1) : ∃ P' N', GInv P' N' ∧ ∀ res, Ev 40 309 1531 [some (.ref 0), some (.ref 8), some (.ref 59), some (.int q)] [] (hs (X, 90, 11875) (jm N')) res → Ev 40 309 871 [some (.ref 0), some (.ref 8), some (.ref 59), some (.int q)] [] (hs (X, 90, 11875) (jm N)) res := by
  obtain ⟨r, P2, N1, N2, r1, r2, hI2⟩ := op_fill (E := (X, 90, 11875)) (x1 := Int32.toInt (X.2 (q + 1 : Int32).toNatClampNeg)) (x2 := Int32.toInt (X.2 (q + 2 : Int32).toNatClampNeg)) (x3 := Int32.toInt (X.2 (q + 3 : Int32).toNatClampNeg)) hI (R_toInt _) (R_toInt _) (R_toInt _)
  simp only [J_toInt] at r1 r2
  obtain ⟨x, rfl⟩ := rn_int (m := 180) rfl r1
  refine ⟨P2, N2, hI2, fun res hres => ?_⟩
  refine Ev.steps 5 (pc' := 876) (L' := [some (.ref 0), some (.ref 8), some (.ref 59), some (.int q)]) (st' := [.int (q + 1), .ref 0, .ref 8]) rfl ?_
  refine Ev.rd (i := (q + 1)) (n := X.1) (pc' := 877) (L' := [some (.ref 0), some (.ref 8), some (.ref 59), some (.int q)]) (st' := [.int (X.2 ((q + 1) : Int32).toNatClampNeg), .ref 8]) h1 rfl ?_
  refine Ev.steps 4 (pc' := 881) (L' := [some (.ref 0), some (.ref 8), some (.ref 59), some (.int q)]) (st' := [.int (q + 2), .ref 0, .int (X.2 ((q + 1) : Int32).toNatClampNeg), .ref 8]) rfl ?_
  refine Ev.rd (i := (q + 2)) (n := X.1) (pc' := 882) (L' := [some (.ref 0), some (.ref 8), some (.ref 59), some (.int q)]) (st' := [.int (X.2 ((q + 2) : Int32).toNatClampNeg), .int (X.2 ((q + 1) : Int32).toNatClampNeg), .ref 8]) h2 rfl ?_
  refine Ev.steps 4 (pc' := 886) (L' := [some (.ref 0), some (.ref 8), some (.ref 59), some (.int q)]) (st' := [.int (q + 3), .ref 0, .int (X.2 ((q + 2) : Int32).toNatClampNeg), .int (X.2 ((q + 1) : Int32).toNatClampNeg), .ref 8]) rfl ?_
  refine Ev.rd (i := (q + 3)) (n := X.1) (pc' := 887) (L' := [some (.ref 0), some (.ref 8), some (.ref 59), some (.int q)]) (st' := [.int (X.2 ((q + 3) : Int32).toNatClampNeg), .int (X.2 ((q + 2) : Int32).toNatClampNeg), .int (X.2 ((q + 1) : Int32).toNatClampNeg), .ref 8]) h3 rfl ?_
  refine Ev.call (y := 180) (args := [.ref 8, .int (X.2 ((q + 1) : Int32).toNatClampNeg), .int (X.2 ((q + 2) : Int32).toNatClampNeg), .int (X.2 ((q + 3) : Int32).toNatClampNeg)]) (rest := []) (r := some (.int x)) (h1 := (hs (X, 90, 11875) (jm N1))) rfl r1 ?_
  show Ev 40 309 890 [some (.ref 0), some (.ref 8), some (.ref 59), some (.int q)] [.int x] (hs (X, 90, 11875) (jm N1)) res
  refine Ev.steps 5 (pc' := 895) (L' := [some (.ref 0), some (.ref 8), some (.ref 59), some (.int q)]) (st' := [.int (q + 1), .ref 0, .ref 59, .int x]) rfl ?_
  refine Ev.rd (i := (q + 1)) (n := X.1) (pc' := 896) (L' := [some (.ref 0), some (.ref 8), some (.ref 59), some (.int q)]) (st' := [.int (X.2 ((q + 1) : Int32).toNatClampNeg), .ref 59, .int x]) h1 rfl ?_
  refine Ev.steps 4 (pc' := 900) (L' := [some (.ref 0), some (.ref 8), some (.ref 59), some (.int q)]) (st' := [.int (q + 2), .ref 0, .int (X.2 ((q + 1) : Int32).toNatClampNeg), .ref 59, .int x]) rfl ?_
  refine Ev.rd (i := (q + 2)) (n := X.1) (pc' := 901) (L' := [some (.ref 0), some (.ref 8), some (.ref 59), some (.int q)]) (st' := [.int (X.2 ((q + 2) : Int32).toNatClampNeg), .int (X.2 ((q + 1) : Int32).toNatClampNeg), .ref 59, .int x]) h2 rfl ?_
  refine Ev.steps 4 (pc' := 905) (L' := [some (.ref 0), some (.ref 8), some (.ref 59), some (.int q)]) (st' := [.int (q + 3), .ref 0, .int (X.2 ((q + 2) : Int32).toNatClampNeg), .int (X.2 ((q + 1) : Int32).toNatClampNeg), .ref 59, .int x]) rfl ?_
  refine Ev.rd (i := (q + 3)) (n := X.1) (pc' := 906) (L' := [some (.ref 0), some (.ref 8), some (.ref 59), some (.int q)]) (st' := [.int (X.2 ((q + 3) : Int32).toNatClampNeg), .int (X.2 ((q + 2) : Int32).toNatClampNeg), .int (X.2 ((q + 1) : Int32).toNatClampNeg), .ref 59, .int x]) h3 rfl ?_
  refine Ev.call (y := 265) (args := [.ref 59, .int (X.2 ((q + 1) : Int32).toNatClampNeg), .int (X.2 ((q + 2) : Int32).toNatClampNeg), .int (X.2 ((q + 3) : Int32).toNatClampNeg)]) (rest := [.int x]) (r := some (.int x)) (h1 := (hs (X, 90, 11875) (jm N2))) rfl r2 ?_
  show Ev 40 309 909 [some (.ref 0), some (.ref 8), some (.ref 59), some (.int q)] [.int x, .int x] (hs (X, 90, 11875) (jm N2)) res
  refine Ev.sw (p := if x = x then 1531 else 912) (pc' := 1531) (L' := [some (.ref 0), some (.ref 8), some (.ref 59), some (.int q)]) (st' := []) rfl (if_pos rfl) ?_
  exact hres
set_option maxRecDepth 100000 in
theorem lc20 {X : Nat × (Nat → Int32)} {q : Int32} {P : Pic} {N : NM} (hI : GInv P N) (h1 : inb (q + 1) X.1) (h2 : inb (q + 2) X.1) (h3 : inb (q + 3) X.1) (h4 : inb (q + 4) X.1) : ∃ P' N', GInv P' N' ∧ ∀ res, Ev 40 309 1531 [some (.ref 0), some (.ref 8), some (.ref 59), some (.int q)] [] (hs (X, 90, 11875) (jm N')) res → Ev 40 309 914 [some (.ref 0), some (.ref 8), some (.ref 59), some (.int q)] [] (hs (X, 90, 11875) (jm N)) res := by
  obtain ⟨r, P2, N1, N2, r1, r2, hI2⟩ := op_empty (E := (X, 90, 11875)) (x1 := Int32.toInt (X.2 (q + 1 : Int32).toNatClampNeg)) hI (R_toInt _)
  simp only [J_toInt] at r1 r2
  obtain ⟨x, rfl⟩ := rn_int (m := 181) rfl r1
  refine ⟨P2, N2, hI2, fun res hres => ?_⟩
  refine Ev.steps 5 (pc' := 919) (L' := [some (.ref 0), some (.ref 8), some (.ref 59), some (.int q)]) (st' := [.int (q + 1), .ref 0, .ref 8]) rfl ?_
  refine Ev.rd (i := (q + 1)) (n := X.1) (pc' := 920) (L' := [some (.ref 0), some (.ref 8), some (.ref 59), some (.int q)]) (st' := [.int (X.2 ((q + 1) : Int32).toNatClampNeg), .ref 8]) h1 rfl ?_
  refine Ev.call (y := 181) (args := [.ref 8, .int (X.2 ((q + 1) : Int32).toNatClampNeg)]) (rest := []) (r := some (.int x)) (h1 := (hs (X, 90, 11875) (jm N1))) rfl r1 ?_
  show Ev 40 309 923 [some (.ref 0), some (.ref 8), some (.ref 59), some (.int q)] [.int x] (hs (X, 90, 11875) (jm N1)) res
  refine Ev.steps 5 (pc' := 928) (L' := [some (.ref 0), some (.ref 8), some (.ref 59), some (.int q)]) (st' := [.int (q + 1), .ref 0, .ref 59, .int x]) rfl ?_
  refine Ev.rd (i := (q + 1)) (n := X.1) (pc' := 929) (L' := [some (.ref 0), some (.ref 8), some (.ref 59), some (.int q)]) (st' := [.int (X.2 ((q + 1) : Int32).toNatClampNeg), .ref 59, .int x]) h1 rfl ?_
  refine Ev.call (y := 266) (args := [.ref 59, .int (X.2 ((q + 1) : Int32).toNatClampNeg)]) (rest := [.int x]) (r := some (.int x)) (h1 := (hs (X, 90, 11875) (jm N2))) rfl r2 ?_
  show Ev 40 309 932 [some (.ref 0), some (.ref 8), some (.ref 59), some (.int q)] [.int x, .int x] (hs (X, 90, 11875) (jm N2)) res
  refine Ev.sw (p := if x = x then 1531 else 935) (pc' := 1531) (L' := [some (.ref 0), some (.ref 8), some (.ref 59), some (.int q)]) (st' := []) rfl (if_pos rfl) ?_
  exact hres
set_option maxRecDepth 100000 in
theorem lc21 {X : Nat × (Nat → Int32)} {q : Int32} {P : Pic} {N : NM} (hI : GInv P N) (h1 : inb (q + 1) X.1) (h2 : inb (q + 2) X.1) (h3 : inb (q + 3) X.1) (h4 : inb (q + 4) X.1) : ∃ P' N', GInv P' N' ∧ ∀ res, Ev 40 309 1531 [some (.ref 0), some (.ref 8), some (.ref 59), some (.int q)] [] (hs (X, 90, 11875) (jm N')) res → Ev 40 309 937 [some (.ref 0), some (.ref 8), some (.ref 59), some (.int q)] [] (hs (X, 90, 11875) (jm N)) res := by
  obtain ⟨r, P2, N1, N2, r1, r2, hI2⟩ := op_field (E := (X, 90, 11875)) (x1 := Int32.toInt (X.2 (q + 1 : Int32).toNatClampNeg)) (x2 := Int32.toInt (X.2 (q + 2 : Int32).toNatClampNeg)) (x3 := Int32.toInt (X.2 (q + 3 : Int32).toNatClampNeg)) hI (R_toInt _) (R_toInt _) (R_toInt _)
  simp only [J_toInt] at r1 r2
  obtain ⟨x, rfl⟩ := rn_int (m := 182) rfl r1
  refine ⟨P2, N2, hI2, fun res hres => ?_⟩
  refine Ev.steps 5 (pc' := 942) (L' := [some (.ref 0), some (.ref 8), some (.ref 59), some (.int q)]) (st' := [.int (q + 1), .ref 0, .ref 8]) rfl ?_
  refine Ev.rd (i := (q + 1)) (n := X.1) (pc' := 943) (L' := [some (.ref 0), some (.ref 8), some (.ref 59), some (.int q)]) (st' := [.int (X.2 ((q + 1) : Int32).toNatClampNeg), .ref 8]) h1 rfl ?_
  refine Ev.steps 4 (pc' := 947) (L' := [some (.ref 0), some (.ref 8), some (.ref 59), some (.int q)]) (st' := [.int (q + 2), .ref 0, .int (X.2 ((q + 1) : Int32).toNatClampNeg), .ref 8]) rfl ?_
  refine Ev.rd (i := (q + 2)) (n := X.1) (pc' := 948) (L' := [some (.ref 0), some (.ref 8), some (.ref 59), some (.int q)]) (st' := [.int (X.2 ((q + 2) : Int32).toNatClampNeg), .int (X.2 ((q + 1) : Int32).toNatClampNeg), .ref 8]) h2 rfl ?_
  refine Ev.steps 4 (pc' := 952) (L' := [some (.ref 0), some (.ref 8), some (.ref 59), some (.int q)]) (st' := [.int (q + 3), .ref 0, .int (X.2 ((q + 2) : Int32).toNatClampNeg), .int (X.2 ((q + 1) : Int32).toNatClampNeg), .ref 8]) rfl ?_
  refine Ev.rd (i := (q + 3)) (n := X.1) (pc' := 953) (L' := [some (.ref 0), some (.ref 8), some (.ref 59), some (.int q)]) (st' := [.int (X.2 ((q + 3) : Int32).toNatClampNeg), .int (X.2 ((q + 2) : Int32).toNatClampNeg), .int (X.2 ((q + 1) : Int32).toNatClampNeg), .ref 8]) h3 rfl ?_
  refine Ev.call (y := 182) (args := [.ref 8, .int (X.2 ((q + 1) : Int32).toNatClampNeg), .int (X.2 ((q + 2) : Int32).toNatClampNeg), .int (X.2 ((q + 3) : Int32).toNatClampNeg)]) (rest := []) (r := some (.int x)) (h1 := (hs (X, 90, 11875) (jm N1))) rfl r1 ?_
  show Ev 40 309 956 [some (.ref 0), some (.ref 8), some (.ref 59), some (.int q)] [.int x] (hs (X, 90, 11875) (jm N1)) res
  refine Ev.steps 5 (pc' := 961) (L' := [some (.ref 0), some (.ref 8), some (.ref 59), some (.int q)]) (st' := [.int (q + 1), .ref 0, .ref 59, .int x]) rfl ?_
  refine Ev.rd (i := (q + 1)) (n := X.1) (pc' := 962) (L' := [some (.ref 0), some (.ref 8), some (.ref 59), some (.int q)]) (st' := [.int (X.2 ((q + 1) : Int32).toNatClampNeg), .ref 59, .int x]) h1 rfl ?_
  refine Ev.steps 4 (pc' := 966) (L' := [some (.ref 0), some (.ref 8), some (.ref 59), some (.int q)]) (st' := [.int (q + 2), .ref 0, .int (X.2 ((q + 1) : Int32).toNatClampNeg), .ref 59, .int x]) rfl ?_
  refine Ev.rd (i := (q + 2)) (n := X.1) (pc' := 967) (L' := [some (.ref 0), some (.ref 8), some (.ref 59), some (.int q)]) (st' := [.int (X.2 ((q + 2) : Int32).toNatClampNeg), .int (X.2 ((q + 1) : Int32).toNatClampNeg), .ref 59, .int x]) h2 rfl ?_
  refine Ev.steps 4 (pc' := 971) (L' := [some (.ref 0), some (.ref 8), some (.ref 59), some (.int q)]) (st' := [.int (q + 3), .ref 0, .int (X.2 ((q + 2) : Int32).toNatClampNeg), .int (X.2 ((q + 1) : Int32).toNatClampNeg), .ref 59, .int x]) rfl ?_
  refine Ev.rd (i := (q + 3)) (n := X.1) (pc' := 972) (L' := [some (.ref 0), some (.ref 8), some (.ref 59), some (.int q)]) (st' := [.int (X.2 ((q + 3) : Int32).toNatClampNeg), .int (X.2 ((q + 2) : Int32).toNatClampNeg), .int (X.2 ((q + 1) : Int32).toNatClampNeg), .ref 59, .int x]) h3 rfl ?_
  refine Ev.call (y := 268) (args := [.ref 59, .int (X.2 ((q + 1) : Int32).toNatClampNeg), .int (X.2 ((q + 2) : Int32).toNatClampNeg), .int (X.2 ((q + 3) : Int32).toNatClampNeg)]) (rest := [.int x]) (r := some (.int x)) (h1 := (hs (X, 90, 11875) (jm N2))) rfl r2 ?_
  show Ev 40 309 975 [some (.ref 0), some (.ref 8), some (.ref 59), some (.int q)] [.int x, .int x] (hs (X, 90, 11875) (jm N2)) res
  refine Ev.sw (p := if x = x then 1531 else 978) (pc' := 1531) (L' := [some (.ref 0), some (.ref 8), some (.ref 59), some (.int q)]) (st' := []) rfl (if_pos rfl) ?_
  exact hres
set_option maxRecDepth 100000 in
theorem lc22 {X : Nat × (Nat → Int32)} {q : Int32} {P : Pic} {N : NM} (hI : GInv P N) (h1 : inb (q + 1) X.1) (h2 : inb (q + 2) X.1) (h3 : inb (q + 3) X.1) (h4 : inb (q + 4) X.1) : ∃ P' N', GInv P' N' ∧ ∀ res, Ev 40 309 1531 [some (.ref 0), some (.ref 8), some (.ref 59), some (.int q)] [] (hs (X, 90, 11875) (jm N')) res → Ev 40 309 980 [some (.ref 0), some (.ref 8), some (.ref 59), some (.int q)] [] (hs (X, 90, 11875) (jm N)) res := by
  obtain ⟨r, P2, N1, N2, r1, r2, hI2⟩ := op_layer (E := (X, 90, 11875)) (x1 := Int32.toInt (X.2 (q + 1 : Int32).toNatClampNeg)) (x2 := Int32.toInt (X.2 (q + 2 : Int32).toNatClampNeg)) (x3 := Int32.toInt (X.2 (q + 3 : Int32).toNatClampNeg)) (x4 := Int32.toInt (X.2 (q + 4 : Int32).toNatClampNeg)) hI (R_toInt _) (R_toInt _) (R_toInt _) (R_toInt _)
  simp only [J_toInt] at r1 r2
  obtain ⟨x, rfl⟩ := rn_int (m := 183) rfl r1
  refine ⟨P2, N2, hI2, fun res hres => ?_⟩
  refine Ev.steps 5 (pc' := 985) (L' := [some (.ref 0), some (.ref 8), some (.ref 59), some (.int q)]) (st' := [.int (q + 1), .ref 0, .ref 8]) rfl ?_
  refine Ev.rd (i := (q + 1)) (n := X.1) (pc' := 986) (L' := [some (.ref 0), some (.ref 8), some (.ref 59), some (.int q)]) (st' := [.int (X.2 ((q + 1) : Int32).toNatClampNeg), .ref 8]) h1 rfl ?_
  refine Ev.steps 4 (pc' := 990) (L' := [some (.ref 0), some (.ref 8), some (.ref 59), some (.int q)]) (st' := [.int (q + 2), .ref 0, .int (X.2 ((q + 1) : Int32).toNatClampNeg), .ref 8]) rfl ?_
  refine Ev.rd (i := (q + 2)) (n := X.1) (pc' := 991) (L' := [some (.ref 0), some (.ref 8), some (.ref 59), some (.int q)]) (st' := [.int (X.2 ((q + 2) : Int32).toNatClampNeg), .int (X.2 ((q + 1) : Int32).toNatClampNeg), .ref 8]) h2 rfl ?_
  refine Ev.steps 4 (pc' := 995) (L' := [some (.ref 0), some (.ref 8), some (.ref 59), some (.int q)]) (st' := [.int (q + 3), .ref 0, .int (X.2 ((q + 2) : Int32).toNatClampNeg), .int (X.2 ((q + 1) : Int32).toNatClampNeg), .ref 8]) rfl ?_
  refine Ev.rd (i := (q + 3)) (n := X.1) (pc' := 996) (L' := [some (.ref 0), some (.ref 8), some (.ref 59), some (.int q)]) (st' := [.int (X.2 ((q + 3) : Int32).toNatClampNeg), .int (X.2 ((q + 2) : Int32).toNatClampNeg), .int (X.2 ((q + 1) : Int32).toNatClampNeg), .ref 8]) h3 rfl ?_
  refine Ev.steps 4 (pc' := 1000) (L' := [some (.ref 0), some (.ref 8), some (.ref 59), some (.int q)]) (st' := [.int (q + 4), .ref 0, .int (X.2 ((q + 3) : Int32).toNatClampNeg), .int (X.2 ((q + 2) : Int32).toNatClampNeg), .int (X.2 ((q + 1) : Int32).toNatClampNeg), .ref 8]) rfl ?_
  refine Ev.rd (i := (q + 4)) (n := X.1) (pc' := 1001) (L' := [some (.ref 0), some (.ref 8), some (.ref 59), some (.int q)]) (st' := [.int (X.2 ((q + 4) : Int32).toNatClampNeg), .int (X.2 ((q + 3) : Int32).toNatClampNeg), .int (X.2 ((q + 2) : Int32).toNatClampNeg), .int (X.2 ((q + 1) : Int32).toNatClampNeg), .ref 8]) h4 rfl ?_
  refine Ev.call (y := 183) (args := [.ref 8, .int (X.2 ((q + 1) : Int32).toNatClampNeg), .int (X.2 ((q + 2) : Int32).toNatClampNeg), .int (X.2 ((q + 3) : Int32).toNatClampNeg), .int (X.2 ((q + 4) : Int32).toNatClampNeg)]) (rest := []) (r := some (.int x)) (h1 := (hs (X, 90, 11875) (jm N1))) rfl r1 ?_
  show Ev 40 309 1004 [some (.ref 0), some (.ref 8), some (.ref 59), some (.int q)] [.int x] (hs (X, 90, 11875) (jm N1)) res
  refine Ev.steps 5 (pc' := 1009) (L' := [some (.ref 0), some (.ref 8), some (.ref 59), some (.int q)]) (st' := [.int (q + 1), .ref 0, .ref 59, .int x]) rfl ?_
  refine Ev.rd (i := (q + 1)) (n := X.1) (pc' := 1010) (L' := [some (.ref 0), some (.ref 8), some (.ref 59), some (.int q)]) (st' := [.int (X.2 ((q + 1) : Int32).toNatClampNeg), .ref 59, .int x]) h1 rfl ?_
  refine Ev.steps 4 (pc' := 1014) (L' := [some (.ref 0), some (.ref 8), some (.ref 59), some (.int q)]) (st' := [.int (q + 2), .ref 0, .int (X.2 ((q + 1) : Int32).toNatClampNeg), .ref 59, .int x]) rfl ?_
  refine Ev.rd (i := (q + 2)) (n := X.1) (pc' := 1015) (L' := [some (.ref 0), some (.ref 8), some (.ref 59), some (.int q)]) (st' := [.int (X.2 ((q + 2) : Int32).toNatClampNeg), .int (X.2 ((q + 1) : Int32).toNatClampNeg), .ref 59, .int x]) h2 rfl ?_
  refine Ev.steps 4 (pc' := 1019) (L' := [some (.ref 0), some (.ref 8), some (.ref 59), some (.int q)]) (st' := [.int (q + 3), .ref 0, .int (X.2 ((q + 2) : Int32).toNatClampNeg), .int (X.2 ((q + 1) : Int32).toNatClampNeg), .ref 59, .int x]) rfl ?_
  refine Ev.rd (i := (q + 3)) (n := X.1) (pc' := 1020) (L' := [some (.ref 0), some (.ref 8), some (.ref 59), some (.int q)]) (st' := [.int (X.2 ((q + 3) : Int32).toNatClampNeg), .int (X.2 ((q + 2) : Int32).toNatClampNeg), .int (X.2 ((q + 1) : Int32).toNatClampNeg), .ref 59, .int x]) h3 rfl ?_
  refine Ev.steps 4 (pc' := 1024) (L' := [some (.ref 0), some (.ref 8), some (.ref 59), some (.int q)]) (st' := [.int (q + 4), .ref 0, .int (X.2 ((q + 3) : Int32).toNatClampNeg), .int (X.2 ((q + 2) : Int32).toNatClampNeg), .int (X.2 ((q + 1) : Int32).toNatClampNeg), .ref 59, .int x]) rfl ?_
  refine Ev.rd (i := (q + 4)) (n := X.1) (pc' := 1025) (L' := [some (.ref 0), some (.ref 8), some (.ref 59), some (.int q)]) (st' := [.int (X.2 ((q + 4) : Int32).toNatClampNeg), .int (X.2 ((q + 3) : Int32).toNatClampNeg), .int (X.2 ((q + 2) : Int32).toNatClampNeg), .int (X.2 ((q + 1) : Int32).toNatClampNeg), .ref 59, .int x]) h4 rfl ?_
  refine Ev.call (y := 269) (args := [.ref 59, .int (X.2 ((q + 1) : Int32).toNatClampNeg), .int (X.2 ((q + 2) : Int32).toNatClampNeg), .int (X.2 ((q + 3) : Int32).toNatClampNeg), .int (X.2 ((q + 4) : Int32).toNatClampNeg)]) (rest := [.int x]) (r := some (.int x)) (h1 := (hs (X, 90, 11875) (jm N2))) rfl r2 ?_
  show Ev 40 309 1028 [some (.ref 0), some (.ref 8), some (.ref 59), some (.int q)] [.int x, .int x] (hs (X, 90, 11875) (jm N2)) res
  refine Ev.sw (p := if x = x then 1531 else 1031) (pc' := 1531) (L' := [some (.ref 0), some (.ref 8), some (.ref 59), some (.int q)]) (st' := []) rfl (if_pos rfl) ?_
  exact hres
set_option maxRecDepth 100000 in
theorem lc23 {X : Nat × (Nat → Int32)} {q : Int32} {P : Pic} {N : NM} (hI : GInv P N) (h1 : inb (q + 1) X.1) (h2 : inb (q + 2) X.1) (h3 : inb (q + 3) X.1) (h4 : inb (q + 4) X.1) : ∃ P' N', GInv P' N' ∧ ∀ res, Ev 40 309 1531 [some (.ref 0), some (.ref 8), some (.ref 59), some (.int q)] [] (hs (X, 90, 11875) (jm N')) res → Ev 40 309 1033 [some (.ref 0), some (.ref 8), some (.ref 59), some (.int q)] [] (hs (X, 90, 11875) (jm N)) res := by
  obtain ⟨r, P2, N1, N2, r1, r2, hI2⟩ := op_fire (E := (X, 90, 11875)) (x1 := Int32.toInt (X.2 (q + 1 : Int32).toNatClampNeg)) hI (R_toInt _)
  simp only [J_toInt] at r1 r2
  obtain ⟨x, rfl⟩ := rn_int (m := 184) rfl r1
  refine ⟨P2, N2, hI2, fun res hres => ?_⟩
  refine Ev.steps 5 (pc' := 1038) (L' := [some (.ref 0), some (.ref 8), some (.ref 59), some (.int q)]) (st' := [.int (q + 1), .ref 0, .ref 8]) rfl ?_
  refine Ev.rd (i := (q + 1)) (n := X.1) (pc' := 1039) (L' := [some (.ref 0), some (.ref 8), some (.ref 59), some (.int q)]) (st' := [.int (X.2 ((q + 1) : Int32).toNatClampNeg), .ref 8]) h1 rfl ?_
  refine Ev.call (y := 184) (args := [.ref 8, .int (X.2 ((q + 1) : Int32).toNatClampNeg)]) (rest := []) (r := some (.int x)) (h1 := (hs (X, 90, 11875) (jm N1))) rfl r1 ?_
  show Ev 40 309 1042 [some (.ref 0), some (.ref 8), some (.ref 59), some (.int q)] [.int x] (hs (X, 90, 11875) (jm N1)) res
  refine Ev.steps 5 (pc' := 1047) (L' := [some (.ref 0), some (.ref 8), some (.ref 59), some (.int q)]) (st' := [.int (q + 1), .ref 0, .ref 59, .int x]) rfl ?_
  refine Ev.rd (i := (q + 1)) (n := X.1) (pc' := 1048) (L' := [some (.ref 0), some (.ref 8), some (.ref 59), some (.int q)]) (st' := [.int (X.2 ((q + 1) : Int32).toNatClampNeg), .ref 59, .int x]) h1 rfl ?_
  refine Ev.call (y := 273) (args := [.ref 59, .int (X.2 ((q + 1) : Int32).toNatClampNeg)]) (rest := [.int x]) (r := some (.int x)) (h1 := (hs (X, 90, 11875) (jm N2))) rfl r2 ?_
  show Ev 40 309 1051 [some (.ref 0), some (.ref 8), some (.ref 59), some (.int q)] [.int x, .int x] (hs (X, 90, 11875) (jm N2)) res
  refine Ev.sw (p := if x = x then 1531 else 1054) (pc' := 1531) (L' := [some (.ref 0), some (.ref 8), some (.ref 59), some (.int q)]) (st' := []) rfl (if_pos rfl) ?_
  exact hres
set_option maxRecDepth 100000 in
theorem lc24 {X : Nat × (Nat → Int32)} {q : Int32} {P : Pic} {N : NM} (hI : GInv P N) (h1 : inb (q + 1) X.1) (h2 : inb (q + 2) X.1) (h3 : inb (q + 3) X.1) (h4 : inb (q + 4) X.1) : ∃ P' N', GInv P' N' ∧ ∀ res, Ev 40 309 1531 [some (.ref 0), some (.ref 8), some (.ref 59), some (.int q)] [] (hs (X, 90, 11875) (jm N')) res → Ev 40 309 1056 [some (.ref 0), some (.ref 8), some (.ref 59), some (.int q)] [] (hs (X, 90, 11875) (jm N)) res := by
  obtain ⟨r, P2, N1, N2, r1, r2, hI2⟩ := op_polish (E := (X, 90, 11875))  hI 
  obtain ⟨x, rfl⟩ := rn_int (m := 185) rfl r1
  refine ⟨P2, N2, hI2, fun res hres => ?_⟩
  refine Ev.steps 1 (pc' := 1057) (L' := [some (.ref 0), some (.ref 8), some (.ref 59), some (.int q)]) (st' := [.ref 8]) rfl ?_
  refine Ev.call (y := 185) (args := [.ref 8]) (rest := []) (r := some (.int x)) (h1 := (hs (X, 90, 11875) (jm N1))) rfl r1 ?_
  show Ev 40 309 1060 [some (.ref 0), some (.ref 8), some (.ref 59), some (.int q)] [.int x] (hs (X, 90, 11875) (jm N1)) res
  refine Ev.steps 1 (pc' := 1061) (L' := [some (.ref 0), some (.ref 8), some (.ref 59), some (.int q)]) (st' := [.ref 59, .int x]) rfl ?_
  refine Ev.call (y := 274) (args := [.ref 59]) (rest := [.int x]) (r := some (.int x)) (h1 := (hs (X, 90, 11875) (jm N2))) rfl r2 ?_
  show Ev 40 309 1064 [some (.ref 0), some (.ref 8), some (.ref 59), some (.int q)] [.int x, .int x] (hs (X, 90, 11875) (jm N2)) res
  refine Ev.sw (p := if x = x then 1531 else 1067) (pc' := 1531) (L' := [some (.ref 0), some (.ref 8), some (.ref 59), some (.int q)]) (st' := []) rfl (if_pos rfl) ?_
  exact hres
set_option maxRecDepth 100000 in
theorem lc25 {X : Nat × (Nat → Int32)} {q : Int32} {P : Pic} {N : NM} (hI : GInv P N) (h1 : inb (q + 1) X.1) (h2 : inb (q + 2) X.1) (h3 : inb (q + 3) X.1) (h4 : inb (q + 4) X.1) : ∃ P' N', GInv P' N' ∧ ∀ res, Ev 40 309 1531 [some (.ref 0), some (.ref 8), some (.ref 59), some (.int q)] [] (hs (X, 90, 11875) (jm N')) res → Ev 40 309 1069 [some (.ref 0), some (.ref 8), some (.ref 59), some (.int q)] [] (hs (X, 90, 11875) (jm N)) res := by
  obtain ⟨r, P2, N1, N2, r1, r2, hI2⟩ := op_state (E := (X, 90, 11875)) (x1 := Int32.toInt (X.2 (q + 1 : Int32).toNatClampNeg)) hI (R_toInt _)
  simp only [J_toInt] at r1 r2
  obtain ⟨x, rfl⟩ := rn_int (m := 186) rfl r1
  refine ⟨P2, N2, hI2, fun res hres => ?_⟩
  refine Ev.steps 5 (pc' := 1074) (L' := [some (.ref 0), some (.ref 8), some (.ref 59), some (.int q)]) (st' := [.int (q + 1), .ref 0, .ref 8]) rfl ?_
  refine Ev.rd (i := (q + 1)) (n := X.1) (pc' := 1075) (L' := [some (.ref 0), some (.ref 8), some (.ref 59), some (.int q)]) (st' := [.int (X.2 ((q + 1) : Int32).toNatClampNeg), .ref 8]) h1 rfl ?_
  refine Ev.call (y := 186) (args := [.ref 8, .int (X.2 ((q + 1) : Int32).toNatClampNeg)]) (rest := []) (r := some (.int x)) (h1 := (hs (X, 90, 11875) (jm N1))) rfl r1 ?_
  show Ev 40 309 1078 [some (.ref 0), some (.ref 8), some (.ref 59), some (.int q)] [.int x] (hs (X, 90, 11875) (jm N1)) res
  refine Ev.steps 5 (pc' := 1083) (L' := [some (.ref 0), some (.ref 8), some (.ref 59), some (.int q)]) (st' := [.int (q + 1), .ref 0, .ref 59, .int x]) rfl ?_
  refine Ev.rd (i := (q + 1)) (n := X.1) (pc' := 1084) (L' := [some (.ref 0), some (.ref 8), some (.ref 59), some (.int q)]) (st' := [.int (X.2 ((q + 1) : Int32).toNatClampNeg), .ref 59, .int x]) h1 rfl ?_
  refine Ev.call (y := 278) (args := [.ref 59, .int (X.2 ((q + 1) : Int32).toNatClampNeg)]) (rest := [.int x]) (r := some (.int x)) (h1 := (hs (X, 90, 11875) (jm N2))) rfl r2 ?_
  show Ev 40 309 1087 [some (.ref 0), some (.ref 8), some (.ref 59), some (.int q)] [.int x, .int x] (hs (X, 90, 11875) (jm N2)) res
  refine Ev.sw (p := if x = x then 1531 else 1090) (pc' := 1531) (L' := [some (.ref 0), some (.ref 8), some (.ref 59), some (.int q)]) (st' := []) rfl (if_pos rfl) ?_
  exact hres
set_option maxRecDepth 100000 in
theorem lc26 {X : Nat × (Nat → Int32)} {q : Int32} {P : Pic} {N : NM} (hI : GInv P N) (h1 : inb (q + 1) X.1) (h2 : inb (q + 2) X.1) (h3 : inb (q + 3) X.1) (h4 : inb (q + 4) X.1) : ∃ P' N', GInv P' N' ∧ ∀ res, Ev 40 309 1531 [some (.ref 0), some (.ref 8), some (.ref 59), some (.int q)] [] (hs (X, 90, 11875) (jm N')) res → Ev 40 309 1092 [some (.ref 0), some (.ref 8), some (.ref 59), some (.int q)] [] (hs (X, 90, 11875) (jm N)) res := by
  obtain ⟨r, P2, N1, N2, r1, r2, hI2⟩ := op_fills (E := (X, 90, 11875)) (x1 := Int32.toInt (X.2 (q + 1 : Int32).toNatClampNeg)) hI (R_toInt _)
  simp only [J_toInt] at r1 r2
  obtain ⟨x, rfl⟩ := rn_int (m := 187) rfl r1
  refine ⟨P2, N2, hI2, fun res hres => ?_⟩
  refine Ev.steps 5 (pc' := 1097) (L' := [some (.ref 0), some (.ref 8), some (.ref 59), some (.int q)]) (st' := [.int (q + 1), .ref 0, .ref 8]) rfl ?_
  refine Ev.rd (i := (q + 1)) (n := X.1) (pc' := 1098) (L' := [some (.ref 0), some (.ref 8), some (.ref 59), some (.int q)]) (st' := [.int (X.2 ((q + 1) : Int32).toNatClampNeg), .ref 8]) h1 rfl ?_
  refine Ev.call (y := 187) (args := [.ref 8, .int (X.2 ((q + 1) : Int32).toNatClampNeg)]) (rest := []) (r := some (.int x)) (h1 := (hs (X, 90, 11875) (jm N1))) rfl r1 ?_
  show Ev 40 309 1101 [some (.ref 0), some (.ref 8), some (.ref 59), some (.int q)] [.int x] (hs (X, 90, 11875) (jm N1)) res
  refine Ev.steps 5 (pc' := 1106) (L' := [some (.ref 0), some (.ref 8), some (.ref 59), some (.int q)]) (st' := [.int (q + 1), .ref 0, .ref 59, .int x]) rfl ?_
  refine Ev.rd (i := (q + 1)) (n := X.1) (pc' := 1107) (L' := [some (.ref 0), some (.ref 8), some (.ref 59), some (.int q)]) (st' := [.int (X.2 ((q + 1) : Int32).toNatClampNeg), .ref 59, .int x]) h1 rfl ?_
  refine Ev.call (y := 280) (args := [.ref 59, .int (X.2 ((q + 1) : Int32).toNatClampNeg)]) (rest := [.int x]) (r := some (.int x)) (h1 := (hs (X, 90, 11875) (jm N2))) rfl r2 ?_
  show Ev 40 309 1110 [some (.ref 0), some (.ref 8), some (.ref 59), some (.int q)] [.int x, .int x] (hs (X, 90, 11875) (jm N2)) res
  refine Ev.sw (p := if x = x then 1531 else 1113) (pc' := 1531) (L' := [some (.ref 0), some (.ref 8), some (.ref 59), some (.int q)]) (st' := []) rfl (if_pos rfl) ?_
  exact hres
set_option maxRecDepth 100000 in
theorem lc27 {X : Nat × (Nat → Int32)} {q : Int32} {P : Pic} {N : NM} (hI : GInv P N) (h1 : inb (q + 1) X.1) (h2 : inb (q + 2) X.1) (h3 : inb (q + 3) X.1) (h4 : inb (q + 4) X.1) : ∃ P' N', GInv P' N' ∧ ∀ res, Ev 40 309 1531 [some (.ref 0), some (.ref 8), some (.ref 59), some (.int q)] [] (hs (X, 90, 11875) (jm N')) res → Ev 40 309 1115 [some (.ref 0), some (.ref 8), some (.ref 59), some (.int q)] [] (hs (X, 90, 11875) (jm N)) res := by
  obtain ⟨r, P2, N1, N2, r1, r2, hI2⟩ := op_plan (E := (X, 90, 11875)) (x1 := Int32.toInt (X.2 (q + 1 : Int32).toNatClampNeg)) hI (R_toInt _)
  simp only [J_toInt] at r1 r2
  obtain ⟨x, rfl⟩ := rn_int (m := 188) rfl r1
  refine ⟨P2, N2, hI2, fun res hres => ?_⟩
  refine Ev.steps 5 (pc' := 1120) (L' := [some (.ref 0), some (.ref 8), some (.ref 59), some (.int q)]) (st' := [.int (q + 1), .ref 0, .ref 8]) rfl ?_
  refine Ev.rd (i := (q + 1)) (n := X.1) (pc' := 1121) (L' := [some (.ref 0), some (.ref 8), some (.ref 59), some (.int q)]) (st' := [.int (X.2 ((q + 1) : Int32).toNatClampNeg), .ref 8]) h1 rfl ?_
  refine Ev.call (y := 188) (args := [.ref 8, .int (X.2 ((q + 1) : Int32).toNatClampNeg)]) (rest := []) (r := some (.int x)) (h1 := (hs (X, 90, 11875) (jm N1))) rfl r1 ?_
  show Ev 40 309 1124 [some (.ref 0), some (.ref 8), some (.ref 59), some (.int q)] [.int x] (hs (X, 90, 11875) (jm N1)) res
  refine Ev.steps 5 (pc' := 1129) (L' := [some (.ref 0), some (.ref 8), some (.ref 59), some (.int q)]) (st' := [.int (q + 1), .ref 0, .ref 59, .int x]) rfl ?_
  refine Ev.rd (i := (q + 1)) (n := X.1) (pc' := 1130) (L' := [some (.ref 0), some (.ref 8), some (.ref 59), some (.int q)]) (st' := [.int (X.2 ((q + 1) : Int32).toNatClampNeg), .ref 59, .int x]) h1 rfl ?_
  refine Ev.call (y := 282) (args := [.ref 59, .int (X.2 ((q + 1) : Int32).toNatClampNeg)]) (rest := [.int x]) (r := some (.int x)) (h1 := (hs (X, 90, 11875) (jm N2))) rfl r2 ?_
  show Ev 40 309 1133 [some (.ref 0), some (.ref 8), some (.ref 59), some (.int q)] [.int x, .int x] (hs (X, 90, 11875) (jm N2)) res
  refine Ev.sw (p := if x = x then 1531 else 1136) (pc' := 1531) (L' := [some (.ref 0), some (.ref 8), some (.ref 59), some (.int q)]) (st' := []) rfl (if_pos rfl) ?_
  exact hres
set_option maxRecDepth 100000 in
theorem lc28 {X : Nat × (Nat → Int32)} {q : Int32} {P : Pic} {N : NM} (hI : GInv P N) (h1 : inb (q + 1) X.1) (h2 : inb (q + 2) X.1) (h3 : inb (q + 3) X.1) (h4 : inb (q + 4) X.1) : ∃ P' N', GInv P' N' ∧ ∀ res, Ev 40 309 1531 [some (.ref 0), some (.ref 8), some (.ref 59), some (.int q)] [] (hs (X, 90, 11875) (jm N')) res → Ev 40 309 1138 [some (.ref 0), some (.ref 8), some (.ref 59), some (.int q)] [] (hs (X, 90, 11875) (jm N)) res := by
  obtain ⟨r, P2, N1, N2, r1, r2, hI2⟩ := op_heat (E := (X, 90, 11875)) (x1 := Int32.toInt (X.2 (q + 1 : Int32).toNatClampNeg)) (x2 := Int32.toInt (X.2 (q + 2 : Int32).toNatClampNeg)) hI (R_toInt _) (R_toInt _)
  simp only [J_toInt] at r1 r2
  obtain ⟨x, rfl⟩ := rn_int (m := 189) rfl r1
  refine ⟨P2, N2, hI2, fun res hres => ?_⟩
  refine Ev.steps 5 (pc' := 1143) (L' := [some (.ref 0), some (.ref 8), some (.ref 59), some (.int q)]) (st' := [.int (q + 1), .ref 0, .ref 8]) rfl ?_
  refine Ev.rd (i := (q + 1)) (n := X.1) (pc' := 1144) (L' := [some (.ref 0), some (.ref 8), some (.ref 59), some (.int q)]) (st' := [.int (X.2 ((q + 1) : Int32).toNatClampNeg), .ref 8]) h1 rfl ?_
  refine Ev.steps 4 (pc' := 1148) (L' := [some (.ref 0), some (.ref 8), some (.ref 59), some (.int q)]) (st' := [.int (q + 2), .ref 0, .int (X.2 ((q + 1) : Int32).toNatClampNeg), .ref 8]) rfl ?_
  refine Ev.rd (i := (q + 2)) (n := X.1) (pc' := 1149) (L' := [some (.ref 0), some (.ref 8), some (.ref 59), some (.int q)]) (st' := [.int (X.2 ((q + 2) : Int32).toNatClampNeg), .int (X.2 ((q + 1) : Int32).toNatClampNeg), .ref 8]) h2 rfl ?_
  refine Ev.call (y := 189) (args := [.ref 8, .int (X.2 ((q + 1) : Int32).toNatClampNeg), .int (X.2 ((q + 2) : Int32).toNatClampNeg)]) (rest := []) (r := some (.int x)) (h1 := (hs (X, 90, 11875) (jm N1))) rfl r1 ?_
  show Ev 40 309 1152 [some (.ref 0), some (.ref 8), some (.ref 59), some (.int q)] [.int x] (hs (X, 90, 11875) (jm N1)) res
  refine Ev.steps 5 (pc' := 1157) (L' := [some (.ref 0), some (.ref 8), some (.ref 59), some (.int q)]) (st' := [.int (q + 1), .ref 0, .ref 59, .int x]) rfl ?_
  refine Ev.rd (i := (q + 1)) (n := X.1) (pc' := 1158) (L' := [some (.ref 0), some (.ref 8), some (.ref 59), some (.int q)]) (st' := [.int (X.2 ((q + 1) : Int32).toNatClampNeg), .ref 59, .int x]) h1 rfl ?_
  refine Ev.steps 4 (pc' := 1162) (L' := [some (.ref 0), some (.ref 8), some (.ref 59), some (.int q)]) (st' := [.int (q + 2), .ref 0, .int (X.2 ((q + 1) : Int32).toNatClampNeg), .ref 59, .int x]) rfl ?_
  refine Ev.rd (i := (q + 2)) (n := X.1) (pc' := 1163) (L' := [some (.ref 0), some (.ref 8), some (.ref 59), some (.int q)]) (st' := [.int (X.2 ((q + 2) : Int32).toNatClampNeg), .int (X.2 ((q + 1) : Int32).toNatClampNeg), .ref 59, .int x]) h2 rfl ?_
  refine Ev.call (y := 283) (args := [.ref 59, .int (X.2 ((q + 1) : Int32).toNatClampNeg), .int (X.2 ((q + 2) : Int32).toNatClampNeg)]) (rest := [.int x]) (r := some (.int x)) (h1 := (hs (X, 90, 11875) (jm N2))) rfl r2 ?_
  show Ev 40 309 1166 [some (.ref 0), some (.ref 8), some (.ref 59), some (.int q)] [.int x, .int x] (hs (X, 90, 11875) (jm N2)) res
  refine Ev.sw (p := if x = x then 1531 else 1169) (pc' := 1531) (L' := [some (.ref 0), some (.ref 8), some (.ref 59), some (.int q)]) (st' := []) rfl (if_pos rfl) ?_
  exact hres
set_option maxRecDepth 100000 in
theorem lc29 {X : Nat × (Nat → Int32)} {q : Int32} {P : Pic} {N : NM} (hI : GInv P N) (h1 : inb (q + 1) X.1) (h2 : inb (q + 2) X.1) (h3 : inb (q + 3) X.1) (h4 : inb (q + 4) X.1) : ∃ P' N', GInv P' N' ∧ ∀ res, Ev 40 309 1531 [some (.ref 0), some (.ref 8), some (.ref 59), some (.int q)] [] (hs (X, 90, 11875) (jm N')) res → Ev 40 309 1171 [some (.ref 0), some (.ref 8), some (.ref 59), some (.int q)] [] (hs (X, 90, 11875) (jm N)) res := by
  obtain ⟨r, P2, N1, N2, r1, r2, hI2⟩ := op_back (E := (X, 90, 11875)) (x1 := Int32.toInt (X.2 (q + 1 : Int32).toNatClampNeg)) (x2 := Int32.toInt (X.2 (q + 2 : Int32).toNatClampNeg)) hI (R_toInt _) (R_toInt _)
  simp only [J_toInt] at r1 r2
  obtain ⟨x, rfl⟩ := rn_int (m := 190) rfl r1
  refine ⟨P2, N2, hI2, fun res hres => ?_⟩
  refine Ev.steps 5 (pc' := 1176) (L' := [some (.ref 0), some (.ref 8), some (.ref 59), some (.int q)]) (st' := [.int (q + 1), .ref 0, .ref 8]) rfl ?_
  refine Ev.rd (i := (q + 1)) (n := X.1) (pc' := 1177) (L' := [some (.ref 0), some (.ref 8), some (.ref 59), some (.int q)]) (st' := [.int (X.2 ((q + 1) : Int32).toNatClampNeg), .ref 8]) h1 rfl ?_
  refine Ev.steps 4 (pc' := 1181) (L' := [some (.ref 0), some (.ref 8), some (.ref 59), some (.int q)]) (st' := [.int (q + 2), .ref 0, .int (X.2 ((q + 1) : Int32).toNatClampNeg), .ref 8]) rfl ?_
  refine Ev.rd (i := (q + 2)) (n := X.1) (pc' := 1182) (L' := [some (.ref 0), some (.ref 8), some (.ref 59), some (.int q)]) (st' := [.int (X.2 ((q + 2) : Int32).toNatClampNeg), .int (X.2 ((q + 1) : Int32).toNatClampNeg), .ref 8]) h2 rfl ?_
  refine Ev.call (y := 190) (args := [.ref 8, .int (X.2 ((q + 1) : Int32).toNatClampNeg), .int (X.2 ((q + 2) : Int32).toNatClampNeg)]) (rest := []) (r := some (.int x)) (h1 := (hs (X, 90, 11875) (jm N1))) rfl r1 ?_
  show Ev 40 309 1185 [some (.ref 0), some (.ref 8), some (.ref 59), some (.int q)] [.int x] (hs (X, 90, 11875) (jm N1)) res
  refine Ev.steps 5 (pc' := 1190) (L' := [some (.ref 0), some (.ref 8), some (.ref 59), some (.int q)]) (st' := [.int (q + 1), .ref 0, .ref 59, .int x]) rfl ?_
  refine Ev.rd (i := (q + 1)) (n := X.1) (pc' := 1191) (L' := [some (.ref 0), some (.ref 8), some (.ref 59), some (.int q)]) (st' := [.int (X.2 ((q + 1) : Int32).toNatClampNeg), .ref 59, .int x]) h1 rfl ?_
  refine Ev.steps 4 (pc' := 1195) (L' := [some (.ref 0), some (.ref 8), some (.ref 59), some (.int q)]) (st' := [.int (q + 2), .ref 0, .int (X.2 ((q + 1) : Int32).toNatClampNeg), .ref 59, .int x]) rfl ?_
  refine Ev.rd (i := (q + 2)) (n := X.1) (pc' := 1196) (L' := [some (.ref 0), some (.ref 8), some (.ref 59), some (.int q)]) (st' := [.int (X.2 ((q + 2) : Int32).toNatClampNeg), .int (X.2 ((q + 1) : Int32).toNatClampNeg), .ref 59, .int x]) h2 rfl ?_
  refine Ev.call (y := 284) (args := [.ref 59, .int (X.2 ((q + 1) : Int32).toNatClampNeg), .int (X.2 ((q + 2) : Int32).toNatClampNeg)]) (rest := [.int x]) (r := some (.int x)) (h1 := (hs (X, 90, 11875) (jm N2))) rfl r2 ?_
  show Ev 40 309 1199 [some (.ref 0), some (.ref 8), some (.ref 59), some (.int q)] [.int x, .int x] (hs (X, 90, 11875) (jm N2)) res
  refine Ev.sw (p := if x = x then 1531 else 1202) (pc' := 1531) (L' := [some (.ref 0), some (.ref 8), some (.ref 59), some (.int q)]) (st' := []) rfl (if_pos rfl) ?_
  exact hres
set_option maxRecDepth 100000 in
theorem lc30 {X : Nat × (Nat → Int32)} {q : Int32} {P : Pic} {N : NM} (hI : GInv P N) (h1 : inb (q + 1) X.1) (h2 : inb (q + 2) X.1) (h3 : inb (q + 3) X.1) (h4 : inb (q + 4) X.1) : ∃ P' N', GInv P' N' ∧ ∀ res, Ev 40 309 1531 [some (.ref 0), some (.ref 8), some (.ref 59), some (.int q)] [] (hs (X, 90, 11875) (jm N')) res → Ev 40 309 1204 [some (.ref 0), some (.ref 8), some (.ref 59), some (.int q)] [] (hs (X, 90, 11875) (jm N)) res := by
  obtain ⟨r, P2, N1, N2, r1, r2, hI2⟩ := op_pull (E := (X, 90, 11875)) (x1 := Int32.toInt (X.2 (q + 1 : Int32).toNatClampNeg)) hI (R_toInt _)
  simp only [J_toInt] at r1 r2
  obtain ⟨x, rfl⟩ := rn_int (m := 191) rfl r1
  refine ⟨P2, N2, hI2, fun res hres => ?_⟩
  refine Ev.steps 5 (pc' := 1209) (L' := [some (.ref 0), some (.ref 8), some (.ref 59), some (.int q)]) (st' := [.int (q + 1), .ref 0, .ref 8]) rfl ?_
  refine Ev.rd (i := (q + 1)) (n := X.1) (pc' := 1210) (L' := [some (.ref 0), some (.ref 8), some (.ref 59), some (.int q)]) (st' := [.int (X.2 ((q + 1) : Int32).toNatClampNeg), .ref 8]) h1 rfl ?_
  refine Ev.call (y := 191) (args := [.ref 8, .int (X.2 ((q + 1) : Int32).toNatClampNeg)]) (rest := []) (r := some (.int x)) (h1 := (hs (X, 90, 11875) (jm N1))) rfl r1 ?_
  show Ev 40 309 1213 [some (.ref 0), some (.ref 8), some (.ref 59), some (.int q)] [.int x] (hs (X, 90, 11875) (jm N1)) res
  refine Ev.steps 5 (pc' := 1218) (L' := [some (.ref 0), some (.ref 8), some (.ref 59), some (.int q)]) (st' := [.int (q + 1), .ref 0, .ref 59, .int x]) rfl ?_
  refine Ev.rd (i := (q + 1)) (n := X.1) (pc' := 1219) (L' := [some (.ref 0), some (.ref 8), some (.ref 59), some (.int q)]) (st' := [.int (X.2 ((q + 1) : Int32).toNatClampNeg), .ref 59, .int x]) h1 rfl ?_
  refine Ev.call (y := 286) (args := [.ref 59, .int (X.2 ((q + 1) : Int32).toNatClampNeg)]) (rest := [.int x]) (r := some (.int x)) (h1 := (hs (X, 90, 11875) (jm N2))) rfl r2 ?_
  show Ev 40 309 1222 [some (.ref 0), some (.ref 8), some (.ref 59), some (.int q)] [.int x, .int x] (hs (X, 90, 11875) (jm N2)) res
  refine Ev.sw (p := if x = x then 1531 else 1225) (pc' := 1531) (L' := [some (.ref 0), some (.ref 8), some (.ref 59), some (.int q)]) (st' := []) rfl (if_pos rfl) ?_
  exact hres
set_option maxRecDepth 100000 in
theorem lc31 {X : Nat × (Nat → Int32)} {q : Int32} {P : Pic} {N : NM} (hI : GInv P N) (h1 : inb (q + 1) X.1) (h2 : inb (q + 2) X.1) (h3 : inb (q + 3) X.1) (h4 : inb (q + 4) X.1) : ∃ P' N', GInv P' N' ∧ ∀ res, Ev 40 309 1531 [some (.ref 0), some (.ref 8), some (.ref 59), some (.int q)] [] (hs (X, 90, 11875) (jm N')) res → Ev 40 309 1227 [some (.ref 0), some (.ref 8), some (.ref 59), some (.int q)] [] (hs (X, 90, 11875) (jm N)) res := by
  obtain ⟨r, P2, N1, N2, r1, r2, hI2⟩ := op_bow (E := (X, 90, 11875)) (x1 := Int32.toInt (X.2 (q + 1 : Int32).toNatClampNeg)) hI (R_toInt _)
  simp only [J_toInt] at r1 r2
  obtain ⟨x, rfl⟩ := rn_int (m := 192) rfl r1
  refine ⟨P2, N2, hI2, fun res hres => ?_⟩
  refine Ev.steps 5 (pc' := 1232) (L' := [some (.ref 0), some (.ref 8), some (.ref 59), some (.int q)]) (st' := [.int (q + 1), .ref 0, .ref 8]) rfl ?_
  refine Ev.rd (i := (q + 1)) (n := X.1) (pc' := 1233) (L' := [some (.ref 0), some (.ref 8), some (.ref 59), some (.int q)]) (st' := [.int (X.2 ((q + 1) : Int32).toNatClampNeg), .ref 8]) h1 rfl ?_
  refine Ev.call (y := 192) (args := [.ref 8, .int (X.2 ((q + 1) : Int32).toNatClampNeg)]) (rest := []) (r := some (.int x)) (h1 := (hs (X, 90, 11875) (jm N1))) rfl r1 ?_
  show Ev 40 309 1236 [some (.ref 0), some (.ref 8), some (.ref 59), some (.int q)] [.int x] (hs (X, 90, 11875) (jm N1)) res
  refine Ev.steps 5 (pc' := 1241) (L' := [some (.ref 0), some (.ref 8), some (.ref 59), some (.int q)]) (st' := [.int (q + 1), .ref 0, .ref 59, .int x]) rfl ?_
  refine Ev.rd (i := (q + 1)) (n := X.1) (pc' := 1242) (L' := [some (.ref 0), some (.ref 8), some (.ref 59), some (.int q)]) (st' := [.int (X.2 ((q + 1) : Int32).toNatClampNeg), .ref 59, .int x]) h1 rfl ?_
  refine Ev.call (y := 289) (args := [.ref 59, .int (X.2 ((q + 1) : Int32).toNatClampNeg)]) (rest := [.int x]) (r := some (.int x)) (h1 := (hs (X, 90, 11875) (jm N2))) rfl r2 ?_
  show Ev 40 309 1245 [some (.ref 0), some (.ref 8), some (.ref 59), some (.int q)] [.int x, .int x] (hs (X, 90, 11875) (jm N2)) res
  refine Ev.sw (p := if x = x then 1531 else 1248) (pc' := 1531) (L' := [some (.ref 0), some (.ref 8), some (.ref 59), some (.int q)]) (st' := []) rfl (if_pos rfl) ?_
  exact hres
set_option maxRecDepth 100000 in
theorem lc32 {X : Nat × (Nat → Int32)} {q : Int32} {P : Pic} {N : NM} (hI : GInv P N) (h1 : inb (q + 1) X.1) (h2 : inb (q + 2) X.1) (h3 : inb (q + 3) X.1) (h4 : inb (q + 4) X.1) : ∃ P' N', GInv P' N' ∧ ∀ res, Ev 40 309 1531 [some (.ref 0), some (.ref 8), some (.ref 59), some (.int q)] [] (hs (X, 90, 11875) (jm N')) res → Ev 40 309 1250 [some (.ref 0), some (.ref 8), some (.ref 59), some (.int q)] [] (hs (X, 90, 11875) (jm N)) res := by
  obtain ⟨r, P2, N1, N2, r1, r2, hI2⟩ := op_straight (E := (X, 90, 11875)) (x1 := Int32.toInt (X.2 (q + 1 : Int32).toNatClampNeg)) hI (R_toInt _)
  simp only [J_toInt] at r1 r2
  obtain ⟨x, rfl⟩ := rn_int (m := 193) rfl r1
  refine ⟨P2, N2, hI2, fun res hres => ?_⟩
  refine Ev.steps 5 (pc' := 1255) (L' := [some (.ref 0), some (.ref 8), some (.ref 59), some (.int q)]) (st' := [.int (q + 1), .ref 0, .ref 8]) rfl ?_
  refine Ev.rd (i := (q + 1)) (n := X.1) (pc' := 1256) (L' := [some (.ref 0), some (.ref 8), some (.ref 59), some (.int q)]) (st' := [.int (X.2 ((q + 1) : Int32).toNatClampNeg), .ref 8]) h1 rfl ?_
  refine Ev.call (y := 193) (args := [.ref 8, .int (X.2 ((q + 1) : Int32).toNatClampNeg)]) (rest := []) (r := some (.int x)) (h1 := (hs (X, 90, 11875) (jm N1))) rfl r1 ?_
  show Ev 40 309 1259 [some (.ref 0), some (.ref 8), some (.ref 59), some (.int q)] [.int x] (hs (X, 90, 11875) (jm N1)) res
  refine Ev.steps 5 (pc' := 1264) (L' := [some (.ref 0), some (.ref 8), some (.ref 59), some (.int q)]) (st' := [.int (q + 1), .ref 0, .ref 59, .int x]) rfl ?_
  refine Ev.rd (i := (q + 1)) (n := X.1) (pc' := 1265) (L' := [some (.ref 0), some (.ref 8), some (.ref 59), some (.int q)]) (st' := [.int (X.2 ((q + 1) : Int32).toNatClampNeg), .ref 59, .int x]) h1 rfl ?_
  refine Ev.call (y := 291) (args := [.ref 59, .int (X.2 ((q + 1) : Int32).toNatClampNeg)]) (rest := [.int x]) (r := some (.int x)) (h1 := (hs (X, 90, 11875) (jm N2))) rfl r2 ?_
  show Ev 40 309 1268 [some (.ref 0), some (.ref 8), some (.ref 59), some (.int q)] [.int x, .int x] (hs (X, 90, 11875) (jm N2)) res
  refine Ev.sw (p := if x = x then 1531 else 1271) (pc' := 1531) (L' := [some (.ref 0), some (.ref 8), some (.ref 59), some (.int q)]) (st' := []) rfl (if_pos rfl) ?_
  exact hres
set_option maxRecDepth 100000 in
theorem lc33 {X : Nat × (Nat → Int32)} {q : Int32} {P : Pic} {N : NM} (hI : GInv P N) (h1 : inb (q + 1) X.1) (h2 : inb (q + 2) X.1) (h3 : inb (q + 3) X.1) (h4 : inb (q + 4) X.1) : ∃ P' N', GInv P' N' ∧ ∀ res, Ev 40 309 1531 [some (.ref 0), some (.ref 8), some (.ref 59), some (.int q)] [] (hs (X, 90, 11875) (jm N')) res → Ev 40 309 1273 [some (.ref 0), some (.ref 8), some (.ref 59), some (.int q)] [] (hs (X, 90, 11875) (jm N)) res := by
  obtain ⟨r, P2, N1, N2, r1, r2, hI2⟩ := op_strain (E := (X, 90, 11875)) (x1 := Int32.toInt (X.2 (q + 1 : Int32).toNatClampNeg)) (x2 := Int32.toInt (X.2 (q + 2 : Int32).toNatClampNeg)) hI (R_toInt _) (R_toInt _)
  simp only [J_toInt] at r1 r2
  obtain ⟨x, rfl⟩ := rn_int (m := 194) rfl r1
  refine ⟨P2, N2, hI2, fun res hres => ?_⟩
  refine Ev.steps 5 (pc' := 1278) (L' := [some (.ref 0), some (.ref 8), some (.ref 59), some (.int q)]) (st' := [.int (q + 1), .ref 0, .ref 8]) rfl ?_
  refine Ev.rd (i := (q + 1)) (n := X.1) (pc' := 1279) (L' := [some (.ref 0), some (.ref 8), some (.ref 59), some (.int q)]) (st' := [.int (X.2 ((q + 1) : Int32).toNatClampNeg), .ref 8]) h1 rfl ?_
  refine Ev.steps 4 (pc' := 1283) (L' := [some (.ref 0), some (.ref 8), some (.ref 59), some (.int q)]) (st' := [.int (q + 2), .ref 0, .int (X.2 ((q + 1) : Int32).toNatClampNeg), .ref 8]) rfl ?_
  refine Ev.rd (i := (q + 2)) (n := X.1) (pc' := 1284) (L' := [some (.ref 0), some (.ref 8), some (.ref 59), some (.int q)]) (st' := [.int (X.2 ((q + 2) : Int32).toNatClampNeg), .int (X.2 ((q + 1) : Int32).toNatClampNeg), .ref 8]) h2 rfl ?_
  refine Ev.call (y := 194) (args := [.ref 8, .int (X.2 ((q + 1) : Int32).toNatClampNeg), .int (X.2 ((q + 2) : Int32).toNatClampNeg)]) (rest := []) (r := some (.int x)) (h1 := (hs (X, 90, 11875) (jm N1))) rfl r1 ?_
  show Ev 40 309 1287 [some (.ref 0), some (.ref 8), some (.ref 59), some (.int q)] [.int x] (hs (X, 90, 11875) (jm N1)) res
  refine Ev.steps 5 (pc' := 1292) (L' := [some (.ref 0), some (.ref 8), some (.ref 59), some (.int q)]) (st' := [.int (q + 1), .ref 0, .ref 59, .int x]) rfl ?_
  refine Ev.rd (i := (q + 1)) (n := X.1) (pc' := 1293) (L' := [some (.ref 0), some (.ref 8), some (.ref 59), some (.int q)]) (st' := [.int (X.2 ((q + 1) : Int32).toNatClampNeg), .ref 59, .int x]) h1 rfl ?_
  refine Ev.steps 4 (pc' := 1297) (L' := [some (.ref 0), some (.ref 8), some (.ref 59), some (.int q)]) (st' := [.int (q + 2), .ref 0, .int (X.2 ((q + 1) : Int32).toNatClampNeg), .ref 59, .int x]) rfl ?_
  refine Ev.rd (i := (q + 2)) (n := X.1) (pc' := 1298) (L' := [some (.ref 0), some (.ref 8), some (.ref 59), some (.int q)]) (st' := [.int (X.2 ((q + 2) : Int32).toNatClampNeg), .int (X.2 ((q + 1) : Int32).toNatClampNeg), .ref 59, .int x]) h2 rfl ?_
  refine Ev.call (y := 293) (args := [.ref 59, .int (X.2 ((q + 1) : Int32).toNatClampNeg), .int (X.2 ((q + 2) : Int32).toNatClampNeg)]) (rest := [.int x]) (r := some (.int x)) (h1 := (hs (X, 90, 11875) (jm N2))) rfl r2 ?_
  show Ev 40 309 1301 [some (.ref 0), some (.ref 8), some (.ref 59), some (.int q)] [.int x, .int x] (hs (X, 90, 11875) (jm N2)) res
  refine Ev.sw (p := if x = x then 1531 else 1304) (pc' := 1531) (L' := [some (.ref 0), some (.ref 8), some (.ref 59), some (.int q)]) (st' := []) rfl (if_pos rfl) ?_
  exact hres
set_option maxRecDepth 100000 in
theorem lc34 {X : Nat × (Nat → Int32)} {q : Int32} {P : Pic} {N : NM} (hI : GInv P N) (h1 : inb (q + 1) X.1) (h2 : inb (q + 2) X.1) (h3 : inb (q + 3) X.1) (h4 : inb (q + 4) X.1) : ∃ P' N', GInv P' N' ∧ ∀ res, Ev 40 309 1531 [some (.ref 0), some (.ref 8), some (.ref 59), some (.int q)] [] (hs (X, 90, 11875) (jm N')) res → Ev 40 309 1306 [some (.ref 0), some (.ref 8), some (.ref 59), some (.int q)] [] (hs (X, 90, 11875) (jm N)) res := by
  obtain ⟨r, P2, N1, N2, r1, r2, hI2⟩ := op_cooling (E := (X, 90, 11875)) (x1 := Int32.toInt (X.2 (q + 1 : Int32).toNatClampNeg)) hI (R_toInt _)
  simp only [J_toInt] at r1 r2
  obtain ⟨x, rfl⟩ := rn_int (m := 195) rfl r1
  refine ⟨P2, N2, hI2, fun res hres => ?_⟩
  refine Ev.steps 5 (pc' := 1311) (L' := [some (.ref 0), some (.ref 8), some (.ref 59), some (.int q)]) (st' := [.int (q + 1), .ref 0, .ref 8]) rfl ?_
  refine Ev.rd (i := (q + 1)) (n := X.1) (pc' := 1312) (L' := [some (.ref 0), some (.ref 8), some (.ref 59), some (.int q)]) (st' := [.int (X.2 ((q + 1) : Int32).toNatClampNeg), .ref 8]) h1 rfl ?_
  refine Ev.call (y := 195) (args := [.ref 8, .int (X.2 ((q + 1) : Int32).toNatClampNeg)]) (rest := []) (r := some (.int x)) (h1 := (hs (X, 90, 11875) (jm N1))) rfl r1 ?_
  show Ev 40 309 1315 [some (.ref 0), some (.ref 8), some (.ref 59), some (.int q)] [.int x] (hs (X, 90, 11875) (jm N1)) res
  refine Ev.steps 5 (pc' := 1320) (L' := [some (.ref 0), some (.ref 8), some (.ref 59), some (.int q)]) (st' := [.int (q + 1), .ref 0, .ref 59, .int x]) rfl ?_
  refine Ev.rd (i := (q + 1)) (n := X.1) (pc' := 1321) (L' := [some (.ref 0), some (.ref 8), some (.ref 59), some (.int q)]) (st' := [.int (X.2 ((q + 1) : Int32).toNatClampNeg), .ref 59, .int x]) h1 rfl ?_
  refine Ev.call (y := 295) (args := [.ref 59, .int (X.2 ((q + 1) : Int32).toNatClampNeg)]) (rest := [.int x]) (r := some (.int x)) (h1 := (hs (X, 90, 11875) (jm N2))) rfl r2 ?_
  show Ev 40 309 1324 [some (.ref 0), some (.ref 8), some (.ref 59), some (.int q)] [.int x, .int x] (hs (X, 90, 11875) (jm N2)) res
  refine Ev.sw (p := if x = x then 1531 else 1327) (pc' := 1531) (L' := [some (.ref 0), some (.ref 8), some (.ref 59), some (.int q)]) (st' := []) rfl (if_pos rfl) ?_
  exact hres
set_option maxRecDepth 100000 in
theorem lc35 {X : Nat × (Nat → Int32)} {q : Int32} {P : Pic} {N : NM} (hI : GInv P N) (h1 : inb (q + 1) X.1) (h2 : inb (q + 2) X.1) (h3 : inb (q + 3) X.1) (h4 : inb (q + 4) X.1) : ∃ P' N', GInv P' N' ∧ ∀ res, Ev 40 309 1531 [some (.ref 0), some (.ref 8), some (.ref 59), some (.int q)] [] (hs (X, 90, 11875) (jm N')) res → Ev 40 309 1329 [some (.ref 0), some (.ref 8), some (.ref 59), some (.int q)] [] (hs (X, 90, 11875) (jm N)) res := by
  obtain ⟨r, P2, N1, N2, r1, r2, hI2⟩ := op_cool (E := (X, 90, 11875)) (x1 := Int32.toInt (X.2 (q + 1 : Int32).toNatClampNeg)) (x2 := Int32.toInt (X.2 (q + 2 : Int32).toNatClampNeg)) hI (R_toInt _) (R_toInt _)
  simp only [J_toInt] at r1 r2
  obtain ⟨x, rfl⟩ := rn_int (m := 196) rfl r1
  refine ⟨P2, N2, hI2, fun res hres => ?_⟩
  refine Ev.steps 5 (pc' := 1334) (L' := [some (.ref 0), some (.ref 8), some (.ref 59), some (.int q)]) (st' := [.int (q + 1), .ref 0, .ref 8]) rfl ?_
  refine Ev.rd (i := (q + 1)) (n := X.1) (pc' := 1335) (L' := [some (.ref 0), some (.ref 8), some (.ref 59), some (.int q)]) (st' := [.int (X.2 ((q + 1) : Int32).toNatClampNeg), .ref 8]) h1 rfl ?_
  refine Ev.steps 4 (pc' := 1339) (L' := [some (.ref 0), some (.ref 8), some (.ref 59), some (.int q)]) (st' := [.int (q + 2), .ref 0, .int (X.2 ((q + 1) : Int32).toNatClampNeg), .ref 8]) rfl ?_
  refine Ev.rd (i := (q + 2)) (n := X.1) (pc' := 1340) (L' := [some (.ref 0), some (.ref 8), some (.ref 59), some (.int q)]) (st' := [.int (X.2 ((q + 2) : Int32).toNatClampNeg), .int (X.2 ((q + 1) : Int32).toNatClampNeg), .ref 8]) h2 rfl ?_
  refine Ev.call (y := 196) (args := [.ref 8, .int (X.2 ((q + 1) : Int32).toNatClampNeg), .int (X.2 ((q + 2) : Int32).toNatClampNeg)]) (rest := []) (r := some (.int x)) (h1 := (hs (X, 90, 11875) (jm N1))) rfl r1 ?_
  show Ev 40 309 1343 [some (.ref 0), some (.ref 8), some (.ref 59), some (.int q)] [.int x] (hs (X, 90, 11875) (jm N1)) res
  refine Ev.steps 5 (pc' := 1348) (L' := [some (.ref 0), some (.ref 8), some (.ref 59), some (.int q)]) (st' := [.int (q + 1), .ref 0, .ref 59, .int x]) rfl ?_
  refine Ev.rd (i := (q + 1)) (n := X.1) (pc' := 1349) (L' := [some (.ref 0), some (.ref 8), some (.ref 59), some (.int q)]) (st' := [.int (X.2 ((q + 1) : Int32).toNatClampNeg), .ref 59, .int x]) h1 rfl ?_
  refine Ev.steps 4 (pc' := 1353) (L' := [some (.ref 0), some (.ref 8), some (.ref 59), some (.int q)]) (st' := [.int (q + 2), .ref 0, .int (X.2 ((q + 1) : Int32).toNatClampNeg), .ref 59, .int x]) rfl ?_
  refine Ev.rd (i := (q + 2)) (n := X.1) (pc' := 1354) (L' := [some (.ref 0), some (.ref 8), some (.ref 59), some (.int q)]) (st' := [.int (X.2 ((q + 2) : Int32).toNatClampNeg), .int (X.2 ((q + 1) : Int32).toNatClampNeg), .ref 59, .int x]) h2 rfl ?_
  refine Ev.call (y := 296) (args := [.ref 59, .int (X.2 ((q + 1) : Int32).toNatClampNeg), .int (X.2 ((q + 2) : Int32).toNatClampNeg)]) (rest := [.int x]) (r := some (.int x)) (h1 := (hs (X, 90, 11875) (jm N2))) rfl r2 ?_
  show Ev 40 309 1357 [some (.ref 0), some (.ref 8), some (.ref 59), some (.int q)] [.int x, .int x] (hs (X, 90, 11875) (jm N2)) res
  refine Ev.sw (p := if x = x then 1531 else 1360) (pc' := 1531) (L' := [some (.ref 0), some (.ref 8), some (.ref 59), some (.int q)]) (st' := []) rfl (if_pos rfl) ?_
  exact hres
set_option maxRecDepth 100000 in
theorem lc36 {X : Nat × (Nat → Int32)} {q : Int32} {P : Pic} {N : NM} (hI : GInv P N) (h1 : inb (q + 1) X.1) (h2 : inb (q + 2) X.1) (h3 : inb (q + 3) X.1) (h4 : inb (q + 4) X.1) : ∃ P' N', GInv P' N' ∧ ∀ res, Ev 40 309 1531 [some (.ref 0), some (.ref 8), some (.ref 59), some (.int q)] [] (hs (X, 90, 11875) (jm N')) res → Ev 40 309 1362 [some (.ref 0), some (.ref 8), some (.ref 59), some (.int q)] [] (hs (X, 90, 11875) (jm N)) res := by
  obtain ⟨r, P2, N1, N2, r1, r2, hI2⟩ := op_harms (E := (X, 90, 11875)) (x1 := Int32.toInt (X.2 (q + 1 : Int32).toNatClampNeg)) (x2 := Int32.toInt (X.2 (q + 2 : Int32).toNatClampNeg)) hI (R_toInt _) (R_toInt _)
  simp only [J_toInt] at r1 r2
  obtain ⟨x, rfl⟩ := rn_int (m := 197) rfl r1
  refine ⟨P2, N2, hI2, fun res hres => ?_⟩
  refine Ev.steps 5 (pc' := 1367) (L' := [some (.ref 0), some (.ref 8), some (.ref 59), some (.int q)]) (st' := [.int (q + 1), .ref 0, .ref 8]) rfl ?_
  refine Ev.rd (i := (q + 1)) (n := X.1) (pc' := 1368) (L' := [some (.ref 0), some (.ref 8), some (.ref 59), some (.int q)]) (st' := [.int (X.2 ((q + 1) : Int32).toNatClampNeg), .ref 8]) h1 rfl ?_
  refine Ev.steps 4 (pc' := 1372) (L' := [some (.ref 0), some (.ref 8), some (.ref 59), some (.int q)]) (st' := [.int (q + 2), .ref 0, .int (X.2 ((q + 1) : Int32).toNatClampNeg), .ref 8]) rfl ?_
  refine Ev.rd (i := (q + 2)) (n := X.1) (pc' := 1373) (L' := [some (.ref 0), some (.ref 8), some (.ref 59), some (.int q)]) (st' := [.int (X.2 ((q + 2) : Int32).toNatClampNeg), .int (X.2 ((q + 1) : Int32).toNatClampNeg), .ref 8]) h2 rfl ?_
  refine Ev.call (y := 197) (args := [.ref 8, .int (X.2 ((q + 1) : Int32).toNatClampNeg), .int (X.2 ((q + 2) : Int32).toNatClampNeg)]) (rest := []) (r := some (.int x)) (h1 := (hs (X, 90, 11875) (jm N1))) rfl r1 ?_
  show Ev 40 309 1376 [some (.ref 0), some (.ref 8), some (.ref 59), some (.int q)] [.int x] (hs (X, 90, 11875) (jm N1)) res
  refine Ev.steps 5 (pc' := 1381) (L' := [some (.ref 0), some (.ref 8), some (.ref 59), some (.int q)]) (st' := [.int (q + 1), .ref 0, .ref 59, .int x]) rfl ?_
  refine Ev.rd (i := (q + 1)) (n := X.1) (pc' := 1382) (L' := [some (.ref 0), some (.ref 8), some (.ref 59), some (.int q)]) (st' := [.int (X.2 ((q + 1) : Int32).toNatClampNeg), .ref 59, .int x]) h1 rfl ?_
  refine Ev.steps 4 (pc' := 1386) (L' := [some (.ref 0), some (.ref 8), some (.ref 59), some (.int q)]) (st' := [.int (q + 2), .ref 0, .int (X.2 ((q + 1) : Int32).toNatClampNeg), .ref 59, .int x]) rfl ?_
  refine Ev.rd (i := (q + 2)) (n := X.1) (pc' := 1387) (L' := [some (.ref 0), some (.ref 8), some (.ref 59), some (.int q)]) (st' := [.int (X.2 ((q + 2) : Int32).toNatClampNeg), .int (X.2 ((q + 1) : Int32).toNatClampNeg), .ref 59, .int x]) h2 rfl ?_
  refine Ev.call (y := 299) (args := [.ref 59, .int (X.2 ((q + 1) : Int32).toNatClampNeg), .int (X.2 ((q + 2) : Int32).toNatClampNeg)]) (rest := [.int x]) (r := some (.int x)) (h1 := (hs (X, 90, 11875) (jm N2))) rfl r2 ?_
  show Ev 40 309 1390 [some (.ref 0), some (.ref 8), some (.ref 59), some (.int q)] [.int x, .int x] (hs (X, 90, 11875) (jm N2)) res
  refine Ev.sw (p := if x = x then 1531 else 1393) (pc' := 1531) (L' := [some (.ref 0), some (.ref 8), some (.ref 59), some (.int q)]) (st' := []) rfl (if_pos rfl) ?_
  exact hres
set_option maxRecDepth 100000 in
theorem lc37 {X : Nat × (Nat → Int32)} {q : Int32} {P : Pic} {N : NM} (hI : GInv P N) (h1 : inb (q + 1) X.1) (h2 : inb (q + 2) X.1) (h3 : inb (q + 3) X.1) (h4 : inb (q + 4) X.1) : ∃ P' N', GInv P' N' ∧ ∀ res, Ev 40 309 1531 [some (.ref 0), some (.ref 8), some (.ref 59), some (.int q)] [] (hs (X, 90, 11875) (jm N')) res → Ev 40 309 1395 [some (.ref 0), some (.ref 8), some (.ref 59), some (.int q)] [] (hs (X, 90, 11875) (jm N)) res := by
  obtain ⟨r, P2, N1, N2, r1, r2, hI2⟩ := op_safe (E := (X, 90, 11875)) (x1 := Int32.toInt (X.2 (q + 1 : Int32).toNatClampNeg)) (x2 := Int32.toInt (X.2 (q + 2 : Int32).toNatClampNeg)) (x3 := Int32.toInt (X.2 (q + 3 : Int32).toNatClampNeg)) hI (R_toInt _) (R_toInt _) (R_toInt _)
  simp only [J_toInt] at r1 r2
  obtain ⟨x, rfl⟩ := rn_int (m := 198) rfl r1
  refine ⟨P2, N2, hI2, fun res hres => ?_⟩
  refine Ev.steps 5 (pc' := 1400) (L' := [some (.ref 0), some (.ref 8), some (.ref 59), some (.int q)]) (st' := [.int (q + 1), .ref 0, .ref 8]) rfl ?_
  refine Ev.rd (i := (q + 1)) (n := X.1) (pc' := 1401) (L' := [some (.ref 0), some (.ref 8), some (.ref 59), some (.int q)]) (st' := [.int (X.2 ((q + 1) : Int32).toNatClampNeg), .ref 8]) h1 rfl ?_
  refine Ev.steps 4 (pc' := 1405) (L' := [some (.ref 0), some (.ref 8), some (.ref 59), some (.int q)]) (st' := [.int (q + 2), .ref 0, .int (X.2 ((q + 1) : Int32).toNatClampNeg), .ref 8]) rfl ?_
  refine Ev.rd (i := (q + 2)) (n := X.1) (pc' := 1406) (L' := [some (.ref 0), some (.ref 8), some (.ref 59), some (.int q)]) (st' := [.int (X.2 ((q + 2) : Int32).toNatClampNeg), .int (X.2 ((q + 1) : Int32).toNatClampNeg), .ref 8]) h2 rfl ?_
  refine Ev.steps 4 (pc' := 1410) (L' := [some (.ref 0), some (.ref 8), some (.ref 59), some (.int q)]) (st' := [.int (q + 3), .ref 0, .int (X.2 ((q + 2) : Int32).toNatClampNeg), .int (X.2 ((q + 1) : Int32).toNatClampNeg), .ref 8]) rfl ?_
  refine Ev.rd (i := (q + 3)) (n := X.1) (pc' := 1411) (L' := [some (.ref 0), some (.ref 8), some (.ref 59), some (.int q)]) (st' := [.int (X.2 ((q + 3) : Int32).toNatClampNeg), .int (X.2 ((q + 2) : Int32).toNatClampNeg), .int (X.2 ((q + 1) : Int32).toNatClampNeg), .ref 8]) h3 rfl ?_
  refine Ev.call (y := 198) (args := [.ref 8, .int (X.2 ((q + 1) : Int32).toNatClampNeg), .int (X.2 ((q + 2) : Int32).toNatClampNeg), .int (X.2 ((q + 3) : Int32).toNatClampNeg)]) (rest := []) (r := some (.int x)) (h1 := (hs (X, 90, 11875) (jm N1))) rfl r1 ?_
  show Ev 40 309 1414 [some (.ref 0), some (.ref 8), some (.ref 59), some (.int q)] [.int x] (hs (X, 90, 11875) (jm N1)) res
  refine Ev.steps 5 (pc' := 1419) (L' := [some (.ref 0), some (.ref 8), some (.ref 59), some (.int q)]) (st' := [.int (q + 1), .ref 0, .ref 59, .int x]) rfl ?_
  refine Ev.rd (i := (q + 1)) (n := X.1) (pc' := 1420) (L' := [some (.ref 0), some (.ref 8), some (.ref 59), some (.int q)]) (st' := [.int (X.2 ((q + 1) : Int32).toNatClampNeg), .ref 59, .int x]) h1 rfl ?_
  refine Ev.steps 4 (pc' := 1424) (L' := [some (.ref 0), some (.ref 8), some (.ref 59), some (.int q)]) (st' := [.int (q + 2), .ref 0, .int (X.2 ((q + 1) : Int32).toNatClampNeg), .ref 59, .int x]) rfl ?_
  refine Ev.rd (i := (q + 2)) (n := X.1) (pc' := 1425) (L' := [some (.ref 0), some (.ref 8), some (.ref 59), some (.int q)]) (st' := [.int (X.2 ((q + 2) : Int32).toNatClampNeg), .int (X.2 ((q + 1) : Int32).toNatClampNeg), .ref 59, .int x]) h2 rfl ?_
  refine Ev.steps 4 (pc' := 1429) (L' := [some (.ref 0), some (.ref 8), some (.ref 59), some (.int q)]) (st' := [.int (q + 3), .ref 0, .int (X.2 ((q + 2) : Int32).toNatClampNeg), .int (X.2 ((q + 1) : Int32).toNatClampNeg), .ref 59, .int x]) rfl ?_
  refine Ev.rd (i := (q + 3)) (n := X.1) (pc' := 1430) (L' := [some (.ref 0), some (.ref 8), some (.ref 59), some (.int q)]) (st' := [.int (X.2 ((q + 3) : Int32).toNatClampNeg), .int (X.2 ((q + 2) : Int32).toNatClampNeg), .int (X.2 ((q + 1) : Int32).toNatClampNeg), .ref 59, .int x]) h3 rfl ?_
  refine Ev.call (y := 300) (args := [.ref 59, .int (X.2 ((q + 1) : Int32).toNatClampNeg), .int (X.2 ((q + 2) : Int32).toNatClampNeg), .int (X.2 ((q + 3) : Int32).toNatClampNeg)]) (rest := [.int x]) (r := some (.int x)) (h1 := (hs (X, 90, 11875) (jm N2))) rfl r2 ?_
  show Ev 40 309 1433 [some (.ref 0), some (.ref 8), some (.ref 59), some (.int q)] [.int x, .int x] (hs (X, 90, 11875) (jm N2)) res
  refine Ev.sw (p := if x = x then 1531 else 1436) (pc' := 1531) (L' := [some (.ref 0), some (.ref 8), some (.ref 59), some (.int q)]) (st' := []) rfl (if_pos rfl) ?_
  exact hres
set_option maxRecDepth 100000 in
theorem lc38 {X : Nat × (Nat → Int32)} {q : Int32} {P : Pic} {N : NM} (hI : GInv P N) (h1 : inb (q + 1) X.1) (h2 : inb (q + 2) X.1) (h3 : inb (q + 3) X.1) (h4 : inb (q + 4) X.1) : ∃ P' N', GInv P' N' ∧ ∀ res, Ev 40 309 1531 [some (.ref 0), some (.ref 8), some (.ref 59), some (.int q)] [] (hs (X, 90, 11875) (jm N')) res → Ev 40 309 1438 [some (.ref 0), some (.ref 8), some (.ref 59), some (.int q)] [] (hs (X, 90, 11875) (jm N)) res := by
  obtain ⟨r, P2, N1, N2, r1, r2, hI2⟩ := op_rod (E := (X, 90, 11875)) (x1 := Int32.toInt (X.2 (q + 1 : Int32).toNatClampNeg)) (x2 := Int32.toInt (X.2 (q + 2 : Int32).toNatClampNeg)) hI (R_toInt _) (R_toInt _)
  simp only [J_toInt] at r1 r2
  obtain ⟨x, rfl⟩ := rn_int (m := 199) rfl r1
  refine ⟨P2, N2, hI2, fun res hres => ?_⟩
  refine Ev.steps 5 (pc' := 1443) (L' := [some (.ref 0), some (.ref 8), some (.ref 59), some (.int q)]) (st' := [.int (q + 1), .ref 0, .ref 8]) rfl ?_
  refine Ev.rd (i := (q + 1)) (n := X.1) (pc' := 1444) (L' := [some (.ref 0), some (.ref 8), some (.ref 59), some (.int q)]) (st' := [.int (X.2 ((q + 1) : Int32).toNatClampNeg), .ref 8]) h1 rfl ?_
  refine Ev.steps 4 (pc' := 1448) (L' := [some (.ref 0), some (.ref 8), some (.ref 59), some (.int q)]) (st' := [.int (q + 2), .ref 0, .int (X.2 ((q + 1) : Int32).toNatClampNeg), .ref 8]) rfl ?_
  refine Ev.rd (i := (q + 2)) (n := X.1) (pc' := 1449) (L' := [some (.ref 0), some (.ref 8), some (.ref 59), some (.int q)]) (st' := [.int (X.2 ((q + 2) : Int32).toNatClampNeg), .int (X.2 ((q + 1) : Int32).toNatClampNeg), .ref 8]) h2 rfl ?_
  refine Ev.call (y := 199) (args := [.ref 8, .int (X.2 ((q + 1) : Int32).toNatClampNeg), .int (X.2 ((q + 2) : Int32).toNatClampNeg)]) (rest := []) (r := some (.int x)) (h1 := (hs (X, 90, 11875) (jm N1))) rfl r1 ?_
  show Ev 40 309 1452 [some (.ref 0), some (.ref 8), some (.ref 59), some (.int q)] [.int x] (hs (X, 90, 11875) (jm N1)) res
  refine Ev.steps 5 (pc' := 1457) (L' := [some (.ref 0), some (.ref 8), some (.ref 59), some (.int q)]) (st' := [.int (q + 1), .ref 0, .ref 59, .int x]) rfl ?_
  refine Ev.rd (i := (q + 1)) (n := X.1) (pc' := 1458) (L' := [some (.ref 0), some (.ref 8), some (.ref 59), some (.int q)]) (st' := [.int (X.2 ((q + 1) : Int32).toNatClampNeg), .ref 59, .int x]) h1 rfl ?_
  refine Ev.steps 4 (pc' := 1462) (L' := [some (.ref 0), some (.ref 8), some (.ref 59), some (.int q)]) (st' := [.int (q + 2), .ref 0, .int (X.2 ((q + 1) : Int32).toNatClampNeg), .ref 59, .int x]) rfl ?_
  refine Ev.rd (i := (q + 2)) (n := X.1) (pc' := 1463) (L' := [some (.ref 0), some (.ref 8), some (.ref 59), some (.int q)]) (st' := [.int (X.2 ((q + 2) : Int32).toNatClampNeg), .int (X.2 ((q + 1) : Int32).toNatClampNeg), .ref 59, .int x]) h2 rfl ?_
  refine Ev.call (y := 301) (args := [.ref 59, .int (X.2 ((q + 1) : Int32).toNatClampNeg), .int (X.2 ((q + 2) : Int32).toNatClampNeg)]) (rest := [.int x]) (r := some (.int x)) (h1 := (hs (X, 90, 11875) (jm N2))) rfl r2 ?_
  show Ev 40 309 1466 [some (.ref 0), some (.ref 8), some (.ref 59), some (.int q)] [.int x, .int x] (hs (X, 90, 11875) (jm N2)) res
  refine Ev.sw (p := if x = x then 1531 else 1469) (pc' := 1531) (L' := [some (.ref 0), some (.ref 8), some (.ref 59), some (.int q)]) (st' := []) rfl (if_pos rfl) ?_
  exact hres
set_option maxRecDepth 100000 in
theorem lc39 {X : Nat × (Nat → Int32)} {q : Int32} {P : Pic} {N : NM} (hI : GInv P N) (h1 : inb (q + 1) X.1) (h2 : inb (q + 2) X.1) (h3 : inb (q + 3) X.1) (h4 : inb (q + 4) X.1) : ∃ P' N', GInv P' N' ∧ ∀ res, Ev 40 309 1531 [some (.ref 0), some (.ref 8), some (.ref 59), some (.int q)] [] (hs (X, 90, 11875) (jm N')) res → Ev 40 309 1471 [some (.ref 0), some (.ref 8), some (.ref 59), some (.int q)] [] (hs (X, 90, 11875) (jm N)) res := by
  obtain ⟨r, P2, N1, N2, r1, r2, hI2⟩ := op_cut (E := (X, 90, 11875)) (x1 := Int32.toInt (X.2 (q + 1 : Int32).toNatClampNeg)) hI (R_toInt _)
  simp only [J_toInt] at r1 r2
  obtain ⟨x, rfl⟩ := rn_int (m := 200) rfl r1
  refine ⟨P2, N2, hI2, fun res hres => ?_⟩
  refine Ev.steps 5 (pc' := 1476) (L' := [some (.ref 0), some (.ref 8), some (.ref 59), some (.int q)]) (st' := [.int (q + 1), .ref 0, .ref 8]) rfl ?_
  refine Ev.rd (i := (q + 1)) (n := X.1) (pc' := 1477) (L' := [some (.ref 0), some (.ref 8), some (.ref 59), some (.int q)]) (st' := [.int (X.2 ((q + 1) : Int32).toNatClampNeg), .ref 8]) h1 rfl ?_
  refine Ev.call (y := 200) (args := [.ref 8, .int (X.2 ((q + 1) : Int32).toNatClampNeg)]) (rest := []) (r := some (.int x)) (h1 := (hs (X, 90, 11875) (jm N1))) rfl r1 ?_
  show Ev 40 309 1480 [some (.ref 0), some (.ref 8), some (.ref 59), some (.int q)] [.int x] (hs (X, 90, 11875) (jm N1)) res
  refine Ev.steps 5 (pc' := 1485) (L' := [some (.ref 0), some (.ref 8), some (.ref 59), some (.int q)]) (st' := [.int (q + 1), .ref 0, .ref 59, .int x]) rfl ?_
  refine Ev.rd (i := (q + 1)) (n := X.1) (pc' := 1486) (L' := [some (.ref 0), some (.ref 8), some (.ref 59), some (.int q)]) (st' := [.int (X.2 ((q + 1) : Int32).toNatClampNeg), .ref 59, .int x]) h1 rfl ?_
  refine Ev.call (y := 306) (args := [.ref 59, .int (X.2 ((q + 1) : Int32).toNatClampNeg)]) (rest := [.int x]) (r := some (.int x)) (h1 := (hs (X, 90, 11875) (jm N2))) rfl r2 ?_
  show Ev 40 309 1489 [some (.ref 0), some (.ref 8), some (.ref 59), some (.int q)] [.int x, .int x] (hs (X, 90, 11875) (jm N2)) res
  refine Ev.sw (p := if x = x then 1531 else 1492) (pc' := 1531) (L' := [some (.ref 0), some (.ref 8), some (.ref 59), some (.int q)]) (st' := []) rfl (if_pos rfl) ?_
  exact hres
set_option maxRecDepth 100000 in
theorem lc40 {X : Nat × (Nat → Int32)} {q : Int32} {P : Pic} {N : NM} (hI : GInv P N) (h1 : inb (q + 1) X.1) (h2 : inb (q + 2) X.1) (h3 : inb (q + 3) X.1) (h4 : inb (q + 4) X.1) : ∃ P' N', GInv P' N' ∧ ∀ res, Ev 40 309 1531 [some (.ref 0), some (.ref 8), some (.ref 59), some (.int q)] [] (hs (X, 90, 11875) (jm N')) res → Ev 40 309 1494 [some (.ref 0), some (.ref 8), some (.ref 59), some (.int q)] [] (hs (X, 90, 11875) (jm N)) res := by
  obtain ⟨r, P2, N1, N2, r1, r2, hI2⟩ := op_count (E := (X, 90, 11875)) (x1 := Int32.toInt (X.2 (q + 1 : Int32).toNatClampNeg)) hI (R_toInt _)
  simp only [J_toInt] at r1 r2
  obtain ⟨x, rfl⟩ := rn_int (m := 201) rfl r1
  refine ⟨P2, N2, hI2, fun res hres => ?_⟩
  refine Ev.steps 5 (pc' := 1499) (L' := [some (.ref 0), some (.ref 8), some (.ref 59), some (.int q)]) (st' := [.int (q + 1), .ref 0, .ref 8]) rfl ?_
  refine Ev.rd (i := (q + 1)) (n := X.1) (pc' := 1500) (L' := [some (.ref 0), some (.ref 8), some (.ref 59), some (.int q)]) (st' := [.int (X.2 ((q + 1) : Int32).toNatClampNeg), .ref 8]) h1 rfl ?_
  refine Ev.call (y := 201) (args := [.ref 8, .int (X.2 ((q + 1) : Int32).toNatClampNeg)]) (rest := []) (r := some (.int x)) (h1 := (hs (X, 90, 11875) (jm N1))) rfl r1 ?_
  show Ev 40 309 1503 [some (.ref 0), some (.ref 8), some (.ref 59), some (.int q)] [.int x] (hs (X, 90, 11875) (jm N1)) res
  refine Ev.steps 5 (pc' := 1508) (L' := [some (.ref 0), some (.ref 8), some (.ref 59), some (.int q)]) (st' := [.int (q + 1), .ref 0, .ref 59, .int x]) rfl ?_
  refine Ev.rd (i := (q + 1)) (n := X.1) (pc' := 1509) (L' := [some (.ref 0), some (.ref 8), some (.ref 59), some (.int q)]) (st' := [.int (X.2 ((q + 1) : Int32).toNatClampNeg), .ref 59, .int x]) h1 rfl ?_
  refine Ev.call (y := 307) (args := [.ref 59, .int (X.2 ((q + 1) : Int32).toNatClampNeg)]) (rest := [.int x]) (r := some (.int x)) (h1 := (hs (X, 90, 11875) (jm N2))) rfl r2 ?_
  show Ev 40 309 1512 [some (.ref 0), some (.ref 8), some (.ref 59), some (.int q)] [.int x, .int x] (hs (X, 90, 11875) (jm N2)) res
  refine Ev.sw (p := if x = x then 1531 else 1515) (pc' := 1531) (L' := [some (.ref 0), some (.ref 8), some (.ref 59), some (.int q)]) (st' := []) rfl (if_pos rfl) ?_
  exact hres
set_option maxRecDepth 100000 in
theorem lc41 {X : Nat × (Nat → Int32)} {q : Int32} {P : Pic} {N : NM} (hI : GInv P N) (h1 : inb (q + 1) X.1) (h2 : inb (q + 2) X.1) (h3 : inb (q + 3) X.1) (h4 : inb (q + 4) X.1) : ∃ P' N', GInv P' N' ∧ ∀ res, Ev 40 309 1531 [some (.ref 0), some (.ref 8), some (.ref 59), some (.int q)] [] (hs (X, 90, 11875) (jm N')) res → Ev 40 309 1517 [some (.ref 0), some (.ref 8), some (.ref 59), some (.int q)] [] (hs (X, 90, 11875) (jm N)) res := by
  obtain ⟨r, P2, N1, N2, r1, r2, hI2⟩ := op_digest (E := (X, 90, 11875))  hI 
  obtain ⟨x, rfl⟩ := rn_long (m := 202) rfl r1
  refine ⟨P2, N2, hI2, fun res hres => ?_⟩
  refine Ev.steps 1 (pc' := 1518) (L' := [some (.ref 0), some (.ref 8), some (.ref 59), some (.int q)]) (st' := [.ref 8]) rfl ?_
  refine Ev.call (y := 202) (args := [.ref 8]) (rest := []) (r := some (.long x)) (h1 := (hs (X, 90, 11875) (jm N1))) rfl r1 ?_
  show Ev 40 309 1521 [some (.ref 0), some (.ref 8), some (.ref 59), some (.int q)] [.long x] (hs (X, 90, 11875) (jm N1)) res
  refine Ev.steps 1 (pc' := 1522) (L' := [some (.ref 0), some (.ref 8), some (.ref 59), some (.int q)]) (st' := [.ref 59, .long x]) rfl ?_
  refine Ev.call (y := 308) (args := [.ref 59]) (rest := [.long x]) (r := some (.long x)) (h1 := (hs (X, 90, 11875) (jm N2))) rfl r2 ?_
  show Ev 40 309 1525 [some (.ref 0), some (.ref 8), some (.ref 59), some (.int q)] [.long x, .long x] (hs (X, 90, 11875) (jm N2)) res
  refine Ev.steps 1 (pc' := 1526) (L' := [some (.ref 0), some (.ref 8), some (.ref 59), some (.int q)]) (st' := [.int (lg_cmp x x)]) rfl ?_
  refine Ev.sw (p := if lg_cmp x x = 0 then 1531 else 1529) (pc' := 1531) (L' := [some (.ref 0), some (.ref 8), some (.ref 59), some (.int q)]) (st' := []) rfl (if_pos lg_same) ?_
  exact hres
