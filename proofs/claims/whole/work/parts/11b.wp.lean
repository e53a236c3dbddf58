/-! by program (wp.py): formulas that are enough -/
-- 204 GlassWires isFireHeat (I)Z
theorem w204_0 {E : gw_N} {M : Mem} {res : Option Value × gw_H} {x0 : Int32} (H : ((x0 < 1 → res = (some (.int 0), hs E M)) ∧ (¬ x0 < 1 → ((999 < x0 → res = (some (.int 0), hs E M)) ∧ (¬ 999 < x0 → res = (some (.int 1), hs E M)))))) : Ev 1 204 0 [some (.int x0)] [] (hs E M) res := by
  refine Ev.steps 3 (pc' := if x0 < 1 then 16 else 5) (L' := [some (.int x0)]) (st' := []) rfl ?_
  refine Ev_ite (fun hc => ?_) (fun hc => ?_)
  · replace H := H.1 hc
    refine Ev.steps 1 (pc' := 17) (L' := [some (.int x0)]) (st' := [.int 0]) rfl ?_
    subst H
    exact Ev.ret rfl
  · replace H := H.2 hc
    refine Ev.steps 3 (pc' := if 999 < x0 then 16 else 12) (L' := [some (.int x0)]) (st' := []) rfl ?_
    refine Ev_ite (fun hc => ?_) (fun hc => ?_)
    · replace H := H.1 hc
      refine Ev.steps 1 (pc' := 17) (L' := [some (.int x0)]) (st' := [.int 0]) rfl ?_
      subst H
      exact Ev.ret rfl
    · replace H := H.2 hc
      refine Ev.steps 2 (pc' := 17) (L' := [some (.int x0)]) (st' := [.int 1]) rfl ?_
      subst H
      exact Ev.ret rfl

def F204 (M : Mem) (x0 : Int32) : Int32 := (if x0 < 1 then 0 else (if 999 < x0 then 0 else 1))
theorem bb204 {M : Mem} {x0 : Int32} : F204 M x0 &&& 1 = F204 M x0 := by
  unfold F204
  (repeat' split) <;> first | rfl | decide
theorem s204 {E : gw_N} {M : Mem} {x0 : Int32} : Rn 204 [.int x0] (hs E M) (some (.int (F204 M x0))) (hs E M) :=
  w204_0 (⟨fun h0 => gw_reteq (if_pos h0), fun h0 => ⟨fun h1 => gw_reteq ((if_neg h0).trans (if_pos h1)), fun h1 => gw_reteq ((if_neg h0).trans (if_neg h1))⟩⟩)
-- 205 GlassWires isCoolHeat (I)Z
theorem w205_0 {E : gw_N} {M : Mem} {res : Option Value × gw_H} {x0 : Int32} (H : ((x0 < 0 → res = (some (.int 0), hs E M)) ∧ (¬ x0 < 0 → ((999 < x0 → res = (some (.int 0), hs E M)) ∧ (¬ 999 < x0 → res = (some (.int 1), hs E M)))))) : Ev 1 205 0 [some (.int x0)] [] (hs E M) res := by
  refine Ev.steps 2 (pc' := if x0 < 0 then 15 else 4) (L' := [some (.int x0)]) (st' := []) rfl ?_
  refine Ev_ite (fun hc => ?_) (fun hc => ?_)
  · replace H := H.1 hc
    refine Ev.steps 1 (pc' := 16) (L' := [some (.int x0)]) (st' := [.int 0]) rfl ?_
    subst H
    exact Ev.ret rfl
  · replace H := H.2 hc
    refine Ev.steps 3 (pc' := if 999 < x0 then 15 else 11) (L' := [some (.int x0)]) (st' := []) rfl ?_
    refine Ev_ite (fun hc => ?_) (fun hc => ?_)
    · replace H := H.1 hc
      refine Ev.steps 1 (pc' := 16) (L' := [some (.int x0)]) (st' := [.int 0]) rfl ?_
      subst H
      exact Ev.ret rfl
    · replace H := H.2 hc
      refine Ev.steps 2 (pc' := 16) (L' := [some (.int x0)]) (st' := [.int 1]) rfl ?_
      subst H
      exact Ev.ret rfl

def F205 (M : Mem) (x0 : Int32) : Int32 := (if x0 < 0 then 0 else (if 999 < x0 then 0 else 1))
theorem bb205 {M : Mem} {x0 : Int32} : F205 M x0 &&& 1 = F205 M x0 := by
  unfold F205
  (repeat' split) <;> first | rfl | decide
theorem s205 {E : gw_N} {M : Mem} {x0 : Int32} : Rn 205 [.int x0] (hs E M) (some (.int (F205 M x0))) (hs E M) :=
  w205_0 (⟨fun h0 => gw_reteq (if_pos h0), fun h0 => ⟨fun h1 => gw_reteq ((if_neg h0).trans (if_pos h1)), fun h1 => gw_reteq ((if_neg h0).trans (if_neg h1))⟩⟩)
-- 206 GlassWires bit (Z)I
theorem w206_0 {E : gw_N} {M : Mem} {res : Option Value × gw_H} {x0 : Int32} (H : ((x0 = 0 → res = (some (.int 0), hs E M)) ∧ (¬ x0 = 0 → res = (some (.int 1), hs E M)))) : Ev 1 206 0 [some (.int x0)] [] (hs E M) res := by
  refine Ev.steps 2 (pc' := if x0 = 0 then 8 else 4) (L' := [some (.int x0)]) (st' := []) rfl ?_
  refine Ev_ite (fun hc => ?_) (fun hc => ?_)
  · replace H := H.1 hc
    refine Ev.steps 1 (pc' := 9) (L' := [some (.int x0)]) (st' := [.int 0]) rfl ?_
    subst H
    exact Ev.ret rfl
  · replace H := H.2 hc
    refine Ev.steps 2 (pc' := 9) (L' := [some (.int x0)]) (st' := [.int 1]) rfl ?_
    subst H
    exact Ev.ret rfl

def F206 (M : Mem) (x0 : Int32) : Int32 := (if x0 = 0 then 0 else 1)
theorem s206 {E : gw_N} {M : Mem} {x0 : Int32} : Rn 206 [.int x0] (hs E M) (some (.int (F206 M x0))) (hs E M) :=
  w206_0 (⟨fun h0 => gw_reteq (if_pos h0), fun h0 => gw_reteq (if_neg h0)⟩)
-- 207 GlassWires mix (JJ)J
theorem w207_0 {E : gw_N} {M : Mem} {res : Option Value × gw_H} {x0 : Int64} {x2 : Int64} (H : res = (some (.long ((31 * x0) + x2)), hs E M)) : Ev 1 207 0 [some (.long x0), none, some (.long x2), none] [] (hs E M) res := by
  refine Ev.steps 5 (pc' := 7) (L' := [some (.long x0), none, some (.long x2), none]) (st' := [.long ((31 * x0) + x2)]) rfl ?_
  subst H
  exact Ev.ret rfl

def F207 (M : Mem) (x0 : Int64) (x2 : Int64) : Int64 := ((31 * x0) + x2)
theorem s207 {E : gw_N} {M : Mem} {x0 : Int64} {x2 : Int64} : Rn 207 [.long x0, .long x2] (hs E M) (some (.long (F207 M x0 x2))) (hs E M) :=
  w207_0 (rfl)
-- 209 GlassWiresModel in (JJJ)Z
theorem w209_0 {E : gw_N} {M : Mem} {res : Option Value × gw_H} {x0 : Int64} {x2 : Int64} {x4 : Int64} (H : (((lg_cmp x0 x2) < 0 → res = (some (.int 0), hs E M)) ∧ (¬ (lg_cmp x0 x2) < 0 → ((0 < (lg_cmp x0 x4) → res = (some (.int 0), hs E M)) ∧ (¬ 0 < (lg_cmp x0 x4) → res = (some (.int 1), hs E M)))))) : Ev 1 209 0 [some (.long x0), none, some (.long x2), none, some (.long x4), none] [] (hs E M) res := by
  refine Ev.steps 4 (pc' := if (lg_cmp x0 x2) < 0 then 17 else 6) (L' := [some (.long x0), none, some (.long x2), none, some (.long x4), none]) (st' := []) rfl ?_
  refine Ev_ite (fun hc => ?_) (fun hc => ?_)
  · replace H := H.1 hc
    refine Ev.steps 1 (pc' := 18) (L' := [some (.long x0), none, some (.long x2), none, some (.long x4), none]) (st' := [.int 0]) rfl ?_
    subst H
    exact Ev.ret rfl
  · replace H := H.2 hc
    refine Ev.steps 4 (pc' := if 0 < (lg_cmp x0 x4) then 17 else 13) (L' := [some (.long x0), none, some (.long x2), none, some (.long x4), none]) (st' := []) rfl ?_
    refine Ev_ite (fun hc => ?_) (fun hc => ?_)
    · replace H := H.1 hc
      refine Ev.steps 1 (pc' := 18) (L' := [some (.long x0), none, some (.long x2), none, some (.long x4), none]) (st' := [.int 0]) rfl ?_
      subst H
      exact Ev.ret rfl
    · replace H := H.2 hc
      refine Ev.steps 2 (pc' := 18) (L' := [some (.long x0), none, some (.long x2), none, some (.long x4), none]) (st' := [.int 1]) rfl ?_
      subst H
      exact Ev.ret rfl

def F209 (M : Mem) (x0 : Int64) (x2 : Int64) (x4 : Int64) : Int32 := (if (lg_cmp x0 x2) < 0 then 0 else (if 0 < (lg_cmp x0 x4) then 0 else 1))
theorem bb209 {M : Mem} {x0 : Int64} {x2 : Int64} {x4 : Int64} : F209 M x0 x2 x4 &&& 1 = F209 M x0 x2 x4 := by
  unfold F209
  (repeat' split) <;> first | rfl | decide
theorem s209 {E : gw_N} {M : Mem} {x0 : Int64} {x2 : Int64} {x4 : Int64} : Rn 209 [.long x0, .long x2, .long x4] (hs E M) (some (.int (F209 M x0 x2 x4))) (hs E M) :=
  w209_0 (⟨fun h0 => gw_reteq (if_pos h0), fun h0 => ⟨fun h1 => gw_reteq ((if_neg h0).trans (if_pos h1)), fun h1 => gw_reteq ((if_neg h0).trans (if_neg h1))⟩⟩)
-- 210 GlassWiresModel begin (II)V
theorem w210_0 {E : gw_N} {M : Mem} {res : Option Value × gw_H} {x1 : Int32} {x2 : Int32} (H : Ev 1 210 17 [some (.ref 59), none, none, some (.int 0)] [] (hs E (up M 59 (upd (upd (upd (M 59) 0 x1) 1 x2) 4 0))) res) : Ev 1 210 0 [some (.ref 59), some (.int x1), some (.int x2), none] [] (hs E M) res := by
  refine Ev.steps 2 (pc' := 2) (L' := [some (.ref 59), some (.int x1), some (.int x2), none]) (st' := [.int x1, .ref 59]) rfl ?_
  refine Ev.mem (a := 59) (g := (upd (M 59) 0 x1)) (pc' := 5) (L' := [some (.ref 59), some (.int x1), some (.int x2), none]) (st' := []) (by decide) rfl ?_
  refine Ev.steps 2 (pc' := 7) (L' := [some (.ref 59), some (.int x1), some (.int x2), none]) (st' := [.int x2, .ref 59]) rfl ?_
  refine Ev.mem (a := 59) (g := (upd (upd (M 59) 0 x1) 1 x2)) (pc' := 10) (L' := [some (.ref 59), some (.int x1), some (.int x2), none]) (st' := []) (by decide) rfl ?_
  refine Ev.mto (M' := (up M 59 (upd (upd (M 59) 0 x1) 1 x2))) (by funext q9; unfold up; by_cases e9 : q9 = 59 <;> simp [e9]) ?_
  refine Ev.steps 2 (pc' := 12) (L' := [some (.ref 59), some (.int x1), some (.int x2), none]) (st' := [.int 0, .ref 59]) rfl ?_
  refine Ev.mem (a := 59) (g := (upd (upd (upd (M 59) 0 x1) 1 x2) 4 0)) (pc' := 15) (L' := [some (.ref 59), some (.int x1), some (.int x2), none]) (st' := []) (by decide) rfl ?_
  refine Ev.mto (M' := (up M 59 (upd (upd (upd (M 59) 0 x1) 1 x2) 4 0))) (by funext q9; unfold up; by_cases e9 : q9 = 59 <;> simp [e9]) ?_
  refine Ev.steps 2 (pc' := 17) (L' := [some (.ref 59), some (.int x1), some (.int x2), some (.int 0)]) (st' := []) rfl ?_
  exact Ev.weak [some (.ref 59), none, none, some (.int 0)] (gw_leb_le ⟨rfl, rfl, trivial⟩) H

theorem w210_17 {E : gw_N} {M : Mem} {res : Option Value × gw_H} {x3 : Int32} (H : ((64 ≤ x3 → res = (none, hs E (up M 59 (upd (upd (upd (upd (M 59) 34 0) 35 0) 29 0) 36 0)))) ∧ (¬ 64 ≤ x3 → (inb x3 64 ∧ Ev 1 210 17 [some (.ref 59), none, none, some (.int (x3 + 1))] [] (hs E (up M 77 (upd (M 77) (x3 : Int32).toNatClampNeg 0))) res)))) : Ev 1 210 17 [some (.ref 59), none, none, some (.int x3)] [] (hs E M) res := by
  refine Ev.steps 3 (pc' := if 64 ≤ x3 then 36 else 23) (L' := [some (.ref 59), none, none, some (.int x3)]) (st' := []) rfl ?_
  refine Ev_ite (fun hc => ?_) (fun hc => ?_)
  · replace H := H.1 hc
    refine Ev.steps 2 (pc' := 38) (L' := [some (.ref 59), none, none, some (.int x3)]) (st' := [.int 0, .ref 59]) rfl ?_
    refine Ev.mem (a := 59) (g := (upd (M 59) 34 0)) (pc' := 41) (L' := [some (.ref 59), none, none, some (.int x3)]) (st' := []) (by decide) rfl ?_
    refine Ev.steps 2 (pc' := 43) (L' := [some (.ref 59), none, none, some (.int x3)]) (st' := [.int 0, .ref 59]) rfl ?_
    refine Ev.mem (a := 59) (g := (upd (upd (M 59) 34 0) 35 0)) (pc' := 46) (L' := [some (.ref 59), none, none, some (.int x3)]) (st' := []) (by decide) rfl ?_
    refine Ev.mto (M' := (up M 59 (upd (upd (M 59) 34 0) 35 0))) (by funext q9; unfold up; by_cases e9 : q9 = 59 <;> simp [e9]) ?_
    refine Ev.steps 2 (pc' := 48) (L' := [some (.ref 59), none, none, some (.int x3)]) (st' := [.int 0, .ref 59]) rfl ?_
    refine Ev.mem (a := 59) (g := (upd (upd (upd (M 59) 34 0) 35 0) 29 0)) (pc' := 51) (L' := [some (.ref 59), none, none, some (.int x3)]) (st' := []) (by decide) rfl ?_
    refine Ev.mto (M' := (up M 59 (upd (upd (upd (M 59) 34 0) 35 0) 29 0))) (by funext q9; unfold up; by_cases e9 : q9 = 59 <;> simp [e9]) ?_
    refine Ev.steps 2 (pc' := 53) (L' := [some (.ref 59), none, none, some (.int x3)]) (st' := [.int 0, .ref 59]) rfl ?_
    refine Ev.mem (a := 59) (g := (upd (upd (upd (upd (M 59) 34 0) 35 0) 29 0) 36 0)) (pc' := 56) (L' := [some (.ref 59), none, none, some (.int x3)]) (st' := []) (by decide) rfl ?_
    refine Ev.mto (M' := (up M 59 (upd (upd (upd (upd (M 59) 34 0) 35 0) 29 0) 36 0))) (by funext q9; unfold up; by_cases e9 : q9 = 59 <;> simp [e9]) ?_
    subst H
    exact Ev.ret rfl
  · replace H := H.2 hc
    refine Ev.steps 4 (pc' := 29) (L' := [some (.ref 59), none, none, some (.int x3)]) (st' := [.int 0, .int x3, .ref 77]) rfl ?_
    refine Ev.wr (a := 77) (g := (upd (M 77) (x3 : Int32).toNatClampNeg 0)) (i := x3) (n := 64) (pc' := 30) (L' := [some (.ref 59), none, none, some (.int x3)]) (st' := []) (by decide) H.1 rfl ?_
    replace H := H.2
    refine Ev.steps 2 (pc' := 17) (L' := [some (.ref 59), none, none, some (.int (x3 + 1))]) (st' := []) rfl ?_
    exact Ev.weak [some (.ref 59), none, none, some (.int (x3 + 1))] (gw_leb_le ⟨rfl, rfl, trivial⟩) H

-- 212 GlassWiresModel letters (J)I
theorem w212_0 {E : gw_N} {M : Mem} {res : Option Value × gw_H} {x1 : Int64} (H : Ev 1 212 11 [some (.ref 59), some (.long x1), none, some (.int 0), some (.int 1), some (.long x1), none, some (.int 0), none] [] (hs E M) res) : Ev 1 212 0 [some (.ref 59), some (.long x1), none, none, none, none, none, none, none] [] (hs E M) res := by
  refine Ev.steps 8 (pc' := 11) (L' := [some (.ref 59), some (.long x1), none, some (.int 0), some (.int 1), some (.long x1), none, some (.int 0), none]) (st' := []) rfl ?_
  exact Ev.weak [some (.ref 59), some (.long x1), none, some (.int 0), some (.int 1), some (.long x1), none, some (.int 0), none] (gw_leb_le ⟨rfl, rfl, rfl, rfl, rfl, rfl, trivial⟩) H

theorem w212_11 {E : gw_N} {M : Mem} {res : Option Value × gw_H} {x1 : Int64} {x3 : Int32} {x4 : Int32} {x5 : Int64} {x7 : Int32} (H : ((8 ≤ x7 → ((x4 = 0 → res = (some (.int (-102)), hs E M)) ∧ (¬ x4 = 0 → (((((M 59) 3) + x3) ≤ 40 → Ev 1 212 108 [some (.ref 59), some (.long x1), none, some (.int x3), none, none, none, some (.int 0), none] [] (hs E M) res) ∧ (¬ (((M 59) 3) + x3) ≤ 40 → res = (some (.int (-104)), hs E M)))))) ∧ (¬ 8 ≤ x7 → ((x4 = 0 → (((Int64.toInt32 (x5 &&& 255)) ≤ 0 → Ev 1 212 11 [some (.ref 59), some (.long x1), none, some (.int (x3 + 0)), some (.int 0), some (.long (((x5).toUInt64 >>> ((8 : Int32).toInt64.toUInt64 &&& Int64.toUInt64 63)).toInt64)), none, some (.int (x7 + 1)), none] [] (hs E M) res) ∧ (¬ (Int64.toInt32 (x5 &&& 255)) ≤ 0 → Ev 1 212 11 [some (.ref 59), some (.long x1), none, some (.int (x3 + 1)), some (.int 0), some (.long (((x5).toUInt64 >>> ((8 : Int32).toInt64.toUInt64 &&& Int64.toUInt64 63)).toInt64)), none, some (.int (x7 + 1)), none] [] (hs E M) res))) ∧ (¬ x4 = 0 → ((126 < (Int64.toInt32 (x5 &&& 255)) → (((Int64.toInt32 (x5 &&& 255)) ≤ 0 → Ev 1 212 11 [some (.ref 59), some (.long x1), none, some (.int (x3 + 0)), some (.int 0), some (.long (((x5).toUInt64 >>> ((8 : Int32).toInt64.toUInt64 &&& Int64.toUInt64 63)).toInt64)), none, some (.int (x7 + 1)), none] [] (hs E M) res) ∧ (¬ (Int64.toInt32 (x5 &&& 255)) ≤ 0 → Ev 1 212 11 [some (.ref 59), some (.long x1), none, some (.int (x3 + 1)), some (.int 0), some (.long (((x5).toUInt64 >>> ((8 : Int32).toInt64.toUInt64 &&& Int64.toUInt64 63)).toInt64)), none, some (.int (x7 + 1)), none] [] (hs E M) res))) ∧ (¬ 126 < (Int64.toInt32 (x5 &&& 255)) → (((Int64.toInt32 (x5 &&& 255)) = 0 → (((Int64.toInt32 (x5 &&& 255)) ≤ 0 → Ev 1 212 11 [some (.ref 59), some (.long x1), none, some (.int (x3 + 0)), some (.int 1), some (.long (((x5).toUInt64 >>> ((8 : Int32).toInt64.toUInt64 &&& Int64.toUInt64 63)).toInt64)), none, some (.int (x7 + 1)), none] [] (hs E M) res) ∧ (¬ (Int64.toInt32 (x5 &&& 255)) ≤ 0 → Ev 1 212 11 [some (.ref 59), some (.long x1), none, some (.int (x3 + 1)), some (.int 1), some (.long (((x5).toUInt64 >>> ((8 : Int32).toInt64.toUInt64 &&& Int64.toUInt64 63)).toInt64)), none, some (.int (x7 + 1)), none] [] (hs E M) res))) ∧ (¬ (Int64.toInt32 (x5 &&& 255)) = 0 → ((x3 = x7 → (((Int64.toInt32 (x5 &&& 255)) ≤ 0 → Ev 1 212 11 [some (.ref 59), some (.long x1), none, some (.int (x3 + 0)), some (.int 1), some (.long (((x5).toUInt64 >>> ((8 : Int32).toInt64.toUInt64 &&& Int64.toUInt64 63)).toInt64)), none, some (.int (x7 + 1)), none] [] (hs E M) res) ∧ (¬ (Int64.toInt32 (x5 &&& 255)) ≤ 0 → Ev 1 212 11 [some (.ref 59), some (.long x1), none, some (.int (x3 + 1)), some (.int 1), some (.long (((x5).toUInt64 >>> ((8 : Int32).toInt64.toUInt64 &&& Int64.toUInt64 63)).toInt64)), none, some (.int (x7 + 1)), none] [] (hs E M) res))) ∧ (¬ x3 = x7 → (((Int64.toInt32 (x5 &&& 255)) ≤ 0 → Ev 1 212 11 [some (.ref 59), some (.long x1), none, some (.int (x3 + 0)), some (.int 0), some (.long (((x5).toUInt64 >>> ((8 : Int32).toInt64.toUInt64 &&& Int64.toUInt64 63)).toInt64)), none, some (.int (x7 + 1)), none] [] (hs E M) res) ∧ (¬ (Int64.toInt32 (x5 &&& 255)) ≤ 0 → Ev 1 212 11 [some (.ref 59), some (.long x1), none, some (.int (x3 + 1)), some (.int 0), some (.long (((x5).toUInt64 >>> ((8 : Int32).toInt64.toUInt64 &&& Int64.toUInt64 63)).toInt64)), none, some (.int (x7 + 1)), none] [] (hs E M) res))))))))))))) : Ev 1 212 11 [some (.ref 59), some (.long x1), none, some (.int x3), some (.int x4), some (.long x5), none, some (.int x7), none] [] (hs E M) res := by
  refine Ev.steps 3 (pc' := if 8 ≤ x7 then 83 else 18) (L' := [some (.ref 59), some (.long x1), none, some (.int x3), some (.int x4), some (.long x5), none, some (.int x7), none]) (st' := []) rfl ?_
  refine Ev_ite (fun hc => ?_) (fun hc => ?_)
  · replace H := H.1 hc
    refine Ev.steps 2 (pc' := if x4 = 0 then 88 else 91) (L' := [some (.ref 59), some (.long x1), none, some (.int x3), some (.int x4), some (.long x5), none, some (.int x7), none]) (st' := []) rfl ?_
    refine Ev_ite (fun hc => ?_) (fun hc => ?_)
    · replace H := H.1 hc
      refine Ev.steps 1 (pc' := 90) (L' := [some (.ref 59), some (.long x1), none, some (.int x3), some (.int x4), some (.long x5), none, some (.int x7), none]) (st' := [.int (-102)]) rfl ?_
      subst H
      exact Ev.ret rfl
    · replace H := H.2 hc
      refine Ev.steps 6 (pc' := if (((M 59) 3) + x3) ≤ 40 then 105 else 102) (L' := [some (.ref 59), some (.long x1), none, some (.int x3), some (.int x4), some (.long x5), none, some (.int x7), none]) (st' := []) rfl ?_
      refine Ev_ite (fun hc => ?_) (fun hc => ?_)
      · replace H := H.1 hc
        refine Ev.steps 2 (pc' := 108) (L' := [some (.ref 59), some (.long x1), none, some (.int x3), some (.int x4), some (.long x5), none, some (.int 0), none]) (st' := []) rfl ?_
        exact Ev.weak [some (.ref 59), some (.long x1), none, some (.int x3), none, none, none, some (.int 0), none] (gw_leb_le ⟨rfl, rfl, rfl, rfl, trivial⟩) H
      · replace H := H.2 hc
        refine Ev.steps 1 (pc' := 104) (L' := [some (.ref 59), some (.long x1), none, some (.int x3), some (.int x4), some (.long x5), none, some (.int x7), none]) (st' := [.int (-104)]) rfl ?_
        subst H
        exact Ev.ret rfl
  · replace H := H.2 hc
    refine Ev.steps 11 (pc' := if x4 = 0 then 61 else 39) (L' := [some (.ref 59), some (.long x1), none, some (.int x3), some (.int x4), some (.long (((x5).toUInt64 >>> ((8 : Int32).toInt64.toUInt64 &&& Int64.toUInt64 63)).toInt64)), none, some (.int x7), some (.int (Int64.toInt32 (x5 &&& 255)))]) (st' := []) rfl ?_
    refine Ev_ite (fun hc => ?_) (fun hc => ?_)
    · replace H := H.1 hc
      refine Ev.steps 5 (pc' := if (Int64.toInt32 (x5 &&& 255)) ≤ 0 then 74 else 70) (L' := [some (.ref 59), some (.long x1), none, some (.int x3), some (.int 0), some (.long (((x5).toUInt64 >>> ((8 : Int32).toInt64.toUInt64 &&& Int64.toUInt64 63)).toInt64)), none, some (.int x7), some (.int (Int64.toInt32 (x5 &&& 255)))]) (st' := [.int x3]) rfl ?_
      refine Ev_ite (fun hc => ?_) (fun hc => ?_)
      · replace H := H.1 hc
        refine Ev.steps 5 (pc' := 11) (L' := [some (.ref 59), some (.long x1), none, some (.int (x3 + 0)), some (.int 0), some (.long (((x5).toUInt64 >>> ((8 : Int32).toInt64.toUInt64 &&& Int64.toUInt64 63)).toInt64)), none, some (.int (x7 + 1)), some (.int (Int64.toInt32 (x5 &&& 255)))]) (st' := []) rfl ?_
        exact Ev.weak [some (.ref 59), some (.long x1), none, some (.int (x3 + 0)), some (.int 0), some (.long (((x5).toUInt64 >>> ((8 : Int32).toInt64.toUInt64 &&& Int64.toUInt64 63)).toInt64)), none, some (.int (x7 + 1)), none] (gw_leb_le ⟨rfl, rfl, rfl, rfl, rfl, rfl, trivial⟩) H
      · replace H := H.2 hc
        refine Ev.steps 6 (pc' := 11) (L' := [some (.ref 59), some (.long x1), none, some (.int (x3 + 1)), some (.int 0), some (.long (((x5).toUInt64 >>> ((8 : Int32).toInt64.toUInt64 &&& Int64.toUInt64 63)).toInt64)), none, some (.int (x7 + 1)), some (.int (Int64.toInt32 (x5 &&& 255)))]) (st' := []) rfl ?_
        exact Ev.weak [some (.ref 59), some (.long x1), none, some (.int (x3 + 1)), some (.int 0), some (.long (((x5).toUInt64 >>> ((8 : Int32).toInt64.toUInt64 &&& Int64.toUInt64 63)).toInt64)), none, some (.int (x7 + 1)), none] (gw_leb_le ⟨rfl, rfl, rfl, rfl, rfl, rfl, trivial⟩) H
    · replace H := H.2 hc
      refine Ev.steps 3 (pc' := if 126 < (Int64.toInt32 (x5 &&& 255)) then 61 else 46) (L' := [some (.ref 59), some (.long x1), none, some (.int x3), some (.int x4), some (.long (((x5).toUInt64 >>> ((8 : Int32).toInt64.toUInt64 &&& Int64.toUInt64 63)).toInt64)), none, some (.int x7), some (.int (Int64.toInt32 (x5 &&& 255)))]) (st' := []) rfl ?_
      refine Ev_ite (fun hc => ?_) (fun hc => ?_)
      · replace H := H.1 hc
        refine Ev.steps 5 (pc' := if (Int64.toInt32 (x5 &&& 255)) ≤ 0 then 74 else 70) (L' := [some (.ref 59), some (.long x1), none, some (.int x3), some (.int 0), some (.long (((x5).toUInt64 >>> ((8 : Int32).toInt64.toUInt64 &&& Int64.toUInt64 63)).toInt64)), none, some (.int x7), some (.int (Int64.toInt32 (x5 &&& 255)))]) (st' := [.int x3]) rfl ?_
        refine Ev_ite (fun hc => ?_) (fun hc => ?_)
        · replace H := H.1 hc
          refine Ev.steps 5 (pc' := 11) (L' := [some (.ref 59), some (.long x1), none, some (.int (x3 + 0)), some (.int 0), some (.long (((x5).toUInt64 >>> ((8 : Int32).toInt64.toUInt64 &&& Int64.toUInt64 63)).toInt64)), none, some (.int (x7 + 1)), some (.int (Int64.toInt32 (x5 &&& 255)))]) (st' := []) rfl ?_
          exact Ev.weak [some (.ref 59), some (.long x1), none, some (.int (x3 + 0)), some (.int 0), some (.long (((x5).toUInt64 >>> ((8 : Int32).toInt64.toUInt64 &&& Int64.toUInt64 63)).toInt64)), none, some (.int (x7 + 1)), none] (gw_leb_le ⟨rfl, rfl, rfl, rfl, rfl, rfl, trivial⟩) H
        · replace H := H.2 hc
          refine Ev.steps 6 (pc' := 11) (L' := [some (.ref 59), some (.long x1), none, some (.int (x3 + 1)), some (.int 0), some (.long (((x5).toUInt64 >>> ((8 : Int32).toInt64.toUInt64 &&& Int64.toUInt64 63)).toInt64)), none, some (.int (x7 + 1)), some (.int (Int64.toInt32 (x5 &&& 255)))]) (st' := []) rfl ?_
          exact Ev.weak [some (.ref 59), some (.long x1), none, some (.int (x3 + 1)), some (.int 0), some (.long (((x5).toUInt64 >>> ((8 : Int32).toInt64.toUInt64 &&& Int64.toUInt64 63)).toInt64)), none, some (.int (x7 + 1)), none] (gw_leb_le ⟨rfl, rfl, rfl, rfl, rfl, rfl, trivial⟩) H
      · replace H := H.2 hc
        refine Ev.steps 2 (pc' := if (Int64.toInt32 (x5 &&& 255)) = 0 then 57 else 51) (L' := [some (.ref 59), some (.long x1), none, some (.int x3), some (.int x4), some (.long (((x5).toUInt64 >>> ((8 : Int32).toInt64.toUInt64 &&& Int64.toUInt64 63)).toInt64)), none, some (.int x7), some (.int (Int64.toInt32 (x5 &&& 255)))]) (st' := []) rfl ?_
        refine Ev_ite (fun hc => ?_) (fun hc => ?_)
        · replace H := H.1 hc
          refine Ev.steps 6 (pc' := if (Int64.toInt32 (x5 &&& 255)) ≤ 0 then 74 else 70) (L' := [some (.ref 59), some (.long x1), none, some (.int x3), some (.int 1), some (.long (((x5).toUInt64 >>> ((8 : Int32).toInt64.toUInt64 &&& Int64.toUInt64 63)).toInt64)), none, some (.int x7), some (.int (Int64.toInt32 (x5 &&& 255)))]) (st' := [.int x3]) rfl ?_
          refine Ev_ite (fun hc => ?_) (fun hc => ?_)
          · replace H := H.1 hc
            refine Ev.steps 5 (pc' := 11) (L' := [some (.ref 59), some (.long x1), none, some (.int (x3 + 0)), some (.int 1), some (.long (((x5).toUInt64 >>> ((8 : Int32).toInt64.toUInt64 &&& Int64.toUInt64 63)).toInt64)), none, some (.int (x7 + 1)), some (.int (Int64.toInt32 (x5 &&& 255)))]) (st' := []) rfl ?_
            exact Ev.weak [some (.ref 59), some (.long x1), none, some (.int (x3 + 0)), some (.int 1), some (.long (((x5).toUInt64 >>> ((8 : Int32).toInt64.toUInt64 &&& Int64.toUInt64 63)).toInt64)), none, some (.int (x7 + 1)), none] (gw_leb_le ⟨rfl, rfl, rfl, rfl, rfl, rfl, trivial⟩) H
          · replace H := H.2 hc
            refine Ev.steps 6 (pc' := 11) (L' := [some (.ref 59), some (.long x1), none, some (.int (x3 + 1)), some (.int 1), some (.long (((x5).toUInt64 >>> ((8 : Int32).toInt64.toUInt64 &&& Int64.toUInt64 63)).toInt64)), none, some (.int (x7 + 1)), some (.int (Int64.toInt32 (x5 &&& 255)))]) (st' := []) rfl ?_
            exact Ev.weak [some (.ref 59), some (.long x1), none, some (.int (x3 + 1)), some (.int 1), some (.long (((x5).toUInt64 >>> ((8 : Int32).toInt64.toUInt64 &&& Int64.toUInt64 63)).toInt64)), none, some (.int (x7 + 1)), none] (gw_leb_le ⟨rfl, rfl, rfl, rfl, rfl, rfl, trivial⟩) H
        · replace H := H.2 hc
          refine Ev.steps 3 (pc' := if x3 = x7 then 57 else 61) (L' := [some (.ref 59), some (.long x1), none, some (.int x3), some (.int x4), some (.long (((x5).toUInt64 >>> ((8 : Int32).toInt64.toUInt64 &&& Int64.toUInt64 63)).toInt64)), none, some (.int x7), some (.int (Int64.toInt32 (x5 &&& 255)))]) (st' := []) rfl ?_
          refine Ev_ite (fun hc => ?_) (fun hc => ?_)
          · replace H := H.1 hc
            refine Ev.steps 6 (pc' := if (Int64.toInt32 (x5 &&& 255)) ≤ 0 then 74 else 70) (L' := [some (.ref 59), some (.long x1), none, some (.int x3), some (.int 1), some (.long (((x5).toUInt64 >>> ((8 : Int32).toInt64.toUInt64 &&& Int64.toUInt64 63)).toInt64)), none, some (.int x7), some (.int (Int64.toInt32 (x5 &&& 255)))]) (st' := [.int x3]) rfl ?_
            refine Ev_ite (fun hc => ?_) (fun hc => ?_)
            · replace H := H.1 hc
              refine Ev.steps 5 (pc' := 11) (L' := [some (.ref 59), some (.long x1), none, some (.int (x3 + 0)), some (.int 1), some (.long (((x5).toUInt64 >>> ((8 : Int32).toInt64.toUInt64 &&& Int64.toUInt64 63)).toInt64)), none, some (.int (x7 + 1)), some (.int (Int64.toInt32 (x5 &&& 255)))]) (st' := []) rfl ?_
              exact Ev.weak [some (.ref 59), some (.long x1), none, some (.int (x3 + 0)), some (.int 1), some (.long (((x5).toUInt64 >>> ((8 : Int32).toInt64.toUInt64 &&& Int64.toUInt64 63)).toInt64)), none, some (.int (x7 + 1)), none] (gw_leb_le ⟨rfl, rfl, rfl, rfl, rfl, rfl, trivial⟩) H
            · replace H := H.2 hc
              refine Ev.steps 6 (pc' := 11) (L' := [some (.ref 59), some (.long x1), none, some (.int (x3 + 1)), some (.int 1), some (.long (((x5).toUInt64 >>> ((8 : Int32).toInt64.toUInt64 &&& Int64.toUInt64 63)).toInt64)), none, some (.int (x7 + 1)), some (.int (Int64.toInt32 (x5 &&& 255)))]) (st' := []) rfl ?_
              exact Ev.weak [some (.ref 59), some (.long x1), none, some (.int (x3 + 1)), some (.int 1), some (.long (((x5).toUInt64 >>> ((8 : Int32).toInt64.toUInt64 &&& Int64.toUInt64 63)).toInt64)), none, some (.int (x7 + 1)), none] (gw_leb_le ⟨rfl, rfl, rfl, rfl, rfl, rfl, trivial⟩) H
          · replace H := H.2 hc
            refine Ev.steps 5 (pc' := if (Int64.toInt32 (x5 &&& 255)) ≤ 0 then 74 else 70) (L' := [some (.ref 59), some (.long x1), none, some (.int x3), some (.int 0), some (.long (((x5).toUInt64 >>> ((8 : Int32).toInt64.toUInt64 &&& Int64.toUInt64 63)).toInt64)), none, some (.int x7), some (.int (Int64.toInt32 (x5 &&& 255)))]) (st' := [.int x3]) rfl ?_
            refine Ev_ite (fun hc => ?_) (fun hc => ?_)
            · replace H := H.1 hc
              refine Ev.steps 5 (pc' := 11) (L' := [some (.ref 59), some (.long x1), none, some (.int (x3 + 0)), some (.int 0), some (.long (((x5).toUInt64 >>> ((8 : Int32).toInt64.toUInt64 &&& Int64.toUInt64 63)).toInt64)), none, some (.int (x7 + 1)), some (.int (Int64.toInt32 (x5 &&& 255)))]) (st' := []) rfl ?_
              exact Ev.weak [some (.ref 59), some (.long x1), none, some (.int (x3 + 0)), some (.int 0), some (.long (((x5).toUInt64 >>> ((8 : Int32).toInt64.toUInt64 &&& Int64.toUInt64 63)).toInt64)), none, some (.int (x7 + 1)), none] (gw_leb_le ⟨rfl, rfl, rfl, rfl, rfl, rfl, trivial⟩) H
            · replace H := H.2 hc
              refine Ev.steps 6 (pc' := 11) (L' := [some (.ref 59), some (.long x1), none, some (.int (x3 + 1)), some (.int 0), some (.long (((x5).toUInt64 >>> ((8 : Int32).toInt64.toUInt64 &&& Int64.toUInt64 63)).toInt64)), none, some (.int (x7 + 1)), some (.int (Int64.toInt32 (x5 &&& 255)))]) (st' := []) rfl ?_
              exact Ev.weak [some (.ref 59), some (.long x1), none, some (.int (x3 + 1)), some (.int 0), some (.long (((x5).toUInt64 >>> ((8 : Int32).toInt64.toUInt64 &&& Int64.toUInt64 63)).toInt64)), none, some (.int (x7 + 1)), none] (gw_leb_le ⟨rfl, rfl, rfl, rfl, rfl, rfl, trivial⟩) H

theorem w212_108 {E : gw_N} {M : Mem} {res : Option Value × gw_H} {x1 : Int64} {x3 : Int32} {x7 : Int32} (H : ((x3 ≤ x7 → res = (some (.int ((M 59) 3)), hs E M)) ∧ (¬ x3 ≤ x7 → (inb ((M 59) 3) 40 ∧ Ev 1 212 108 [some (.ref 59), some (.long x1), none, some (.int x3), none, none, none, some (.int (x7 + 1)), none] [] (hs E (up (up M 60 (upd (M 60) (((M 59) 3) : Int32).toNatClampNeg (Int64.toInt32 ((((x1).toUInt64 >>> (((8 * x7) : Int32).toInt64.toUInt64 &&& Int64.toUInt64 63)).toInt64) &&& 255)))) 59 (upd (M 59) 3 (((M 59) 3) + 1)))) res)))) : Ev 1 212 108 [some (.ref 59), some (.long x1), none, some (.int x3), none, none, none, some (.int x7), none] [] (hs E M) res := by
  refine Ev.steps 3 (pc' := if x3 ≤ x7 then 151 else 114) (L' := [some (.ref 59), some (.long x1), none, some (.int x3), none, none, none, some (.int x7), none]) (st' := []) rfl ?_
  refine Ev_ite (fun hc => ?_) (fun hc => ?_)
  · replace H := H.1 hc
    refine Ev.steps 2 (pc' := 155) (L' := [some (.ref 59), some (.long x1), none, some (.int x3), none, none, none, some (.int x7), none]) (st' := [.int ((M 59) 3)]) rfl ?_
    subst H
    exact Ev.ret rfl
  · replace H := H.2 hc
    refine Ev.steps 12 (pc' := 134) (L' := [some (.ref 59), some (.long x1), none, some (.int x3), none, none, none, some (.int x7), none]) (st' := [.int (Int64.toInt32 ((((x1).toUInt64 >>> (((8 * x7) : Int32).toInt64.toUInt64 &&& Int64.toUInt64 63)).toInt64) &&& 255)), .int ((M 59) 3), .ref 60]) rfl ?_
    refine Ev.wr (a := 60) (g := (upd (M 60) (((M 59) 3) : Int32).toNatClampNeg (Int64.toInt32 ((((x1).toUInt64 >>> (((8 * x7) : Int32).toInt64.toUInt64 &&& Int64.toUInt64 63)).toInt64) &&& 255)))) (i := ((M 59) 3)) (n := 40) (pc' := 135) (L' := [some (.ref 59), some (.long x1), none, some (.int x3), none, none, none, some (.int x7), none]) (st' := []) (by decide) H.1 rfl ?_
    replace H := H.2
    refine Ev.steps 5 (pc' := 142) (L' := [some (.ref 59), some (.long x1), none, some (.int x3), none, none, none, some (.int x7), none]) (st' := [.int (((M 59) 3) + 1), .ref 59]) rfl ?_
    refine Ev.mem (a := 59) (g := (upd (M 59) 3 (((M 59) 3) + 1))) (pc' := 145) (L' := [some (.ref 59), some (.long x1), none, some (.int x3), none, none, none, some (.int x7), none]) (st' := []) (by decide) rfl ?_
    refine Ev.steps 2 (pc' := 108) (L' := [some (.ref 59), some (.long x1), none, some (.int x3), none, none, none, some (.int (x7 + 1)), none]) (st' := []) rfl ?_
    exact Ev.weak [some (.ref 59), some (.long x1), none, some (.int x3), none, none, none, some (.int (x7 + 1)), none] (gw_leb_le ⟨rfl, rfl, rfl, rfl, trivial⟩) H

-- 213 GlassWiresModel blank ()I
theorem w213_0 {E : gw_N} {M : Mem} {res : Option Value × gw_H}  (H : res = (some (.int ((M 59) 3)), hs E (up M 59 (upd (M 59) 3 0)))) : Ev 1 213 0 [some (.ref 59), none] [] (hs E M) res := by
  refine Ev.steps 5 (pc' := 7) (L' := [some (.ref 59), some (.int ((M 59) 3))]) (st' := [.int 0, .ref 59]) rfl ?_
  refine Ev.mem (a := 59) (g := (upd (M 59) 3 0)) (pc' := 10) (L' := [some (.ref 59), some (.int ((M 59) 3))]) (st' := []) (by decide) rfl ?_
  refine Ev.steps 1 (pc' := 11) (L' := [some (.ref 59), some (.int ((M 59) 3))]) (st' := [.int ((M 59) 3)]) rfl ?_
  subst H
  exact Ev.ret rfl

-- 215 GlassWiresModel stepX (I)I
theorem w215_0 {E : gw_N} {M : Mem} {res : Option Value × gw_H} {x0 : Int32} (H : ((x0 = 114 → res = (some (.int 1), hs E M)) ∧ (¬ x0 = 114 → ((x0 = 108 → res = (some (.int (-1)), hs E M)) ∧ (¬ x0 = 108 → res = (some (.int 0), hs E M)))))) : Ev 1 215 0 [some (.int x0)] [] (hs E M) res := by
  refine Ev.steps 3 (pc' := if x0 = 114 then 6 else 10) (L' := [some (.int x0)]) (st' := []) rfl ?_
  refine Ev_ite (fun hc => ?_) (fun hc => ?_)
  · replace H := H.1 hc
    refine Ev.steps 2 (pc' := 21) (L' := [some (.int x0)]) (st' := [.int 1]) rfl ?_
    subst H
    exact Ev.ret rfl
  · replace H := H.2 hc
    refine Ev.steps 3 (pc' := if x0 = 108 then 16 else 20) (L' := [some (.int x0)]) (st' := []) rfl ?_
    refine Ev_ite (fun hc => ?_) (fun hc => ?_)
    · replace H := H.1 hc
      refine Ev.steps 2 (pc' := 21) (L' := [some (.int x0)]) (st' := [.int (-1)]) rfl ?_
      subst H
      exact Ev.ret rfl
    · replace H := H.2 hc
      refine Ev.steps 1 (pc' := 21) (L' := [some (.int x0)]) (st' := [.int 0]) rfl ?_
      subst H
      exact Ev.ret rfl

def F215 (M : Mem) (x0 : Int32) : Int32 := (if x0 = 114 then 1 else (if x0 = 108 then (-1) else 0))
theorem s215 {E : gw_N} {M : Mem} {x0 : Int32} : Rn 215 [.int x0] (hs E M) (some (.int (F215 M x0))) (hs E M) :=
  w215_0 (⟨fun h0 => gw_reteq (if_pos h0), fun h0 => ⟨fun h1 => gw_reteq ((if_neg h0).trans (if_pos h1)), fun h1 => gw_reteq ((if_neg h0).trans (if_neg h1))⟩⟩)
-- 216 GlassWiresModel stepY (I)I
theorem w216_0 {E : gw_N} {M : Mem} {res : Option Value × gw_H} {x0 : Int32} (H : ((x0 = 117 → res = (some (.int 1), hs E M)) ∧ (¬ x0 = 117 → ((x0 = 100 → res = (some (.int (-1)), hs E M)) ∧ (¬ x0 = 100 → res = (some (.int 0), hs E M)))))) : Ev 1 216 0 [some (.int x0)] [] (hs E M) res := by
  refine Ev.steps 3 (pc' := if x0 = 117 then 6 else 10) (L' := [some (.int x0)]) (st' := []) rfl ?_
  refine Ev_ite (fun hc => ?_) (fun hc => ?_)
  · replace H := H.1 hc
    refine Ev.steps 2 (pc' := 21) (L' := [some (.int x0)]) (st' := [.int 1]) rfl ?_
    subst H
    exact Ev.ret rfl
  · replace H := H.2 hc
    refine Ev.steps 3 (pc' := if x0 = 100 then 16 else 20) (L' := [some (.int x0)]) (st' := []) rfl ?_
    refine Ev_ite (fun hc => ?_) (fun hc => ?_)
    · replace H := H.1 hc
      refine Ev.steps 2 (pc' := 21) (L' := [some (.int x0)]) (st' := [.int (-1)]) rfl ?_
      subst H
      exact Ev.ret rfl
    · replace H := H.2 hc
      refine Ev.steps 1 (pc' := 21) (L' := [some (.int x0)]) (st' := [.int 0]) rfl ?_
      subst H
      exact Ev.ret rfl

def F216 (M : Mem) (x0 : Int32) : Int32 := (if x0 = 117 then 1 else (if x0 = 100 then (-1) else 0))
theorem s216 {E : gw_N} {M : Mem} {x0 : Int32} : Rn 216 [.int x0] (hs E M) (some (.int (F216 M x0))) (hs E M) :=
  w216_0 (⟨fun h0 => gw_reteq (if_pos h0), fun h0 => ⟨fun h1 => gw_reteq ((if_neg h0).trans (if_pos h1)), fun h1 => gw_reteq ((if_neg h0).trans (if_neg h1))⟩⟩)
-- 223 GlassWiresModel edgeOf (II)I
theorem w223_0 {E : gw_N} {M : Mem} {res : Option Value × gw_H} {x1 : Int32} {x2 : Int32} (H : (inb ((25 * x1) + x2) 750 ∧ (inb (((25 * x1) + x2) + 1) 750 ∧ ((((M 61) ((((25 * x1) + x2) + 1) : Int32).toNatClampNeg) ≤ ((M 61) (((25 * x1) + x2) : Int32).toNatClampNeg) → (inb (((25 * x1) + x2) + 1) 750 ∧ (inb ((25 * x1) + x2) 750 ∧ (inb (((25 * x1) + x2) + 1) 750 ∧ ((((M 62) ((((25 * x1) + x2) + 1) : Int32).toNatClampNeg) ≤ ((M 62) (((25 * x1) + x2) : Int32).toNatClampNeg) → (inb (((25 * x1) + x2) + 1) 750 ∧ (inb ((25 * x1) + x2) 750 ∧ (inb (((25 * x1) + x2) + 1) 750 ∧ ((((M 61) (((25 * x1) + x2) : Int32).toNatClampNeg) = ((M 61) ((((25 * x1) + x2) + 1) : Int32).toNatClampNeg) → res = (some (.int ((81 + (9 * ((M 62) ((((25 * x1) + x2) + 1) : Int32).toNatClampNeg))) + ((M 61) ((((25 * x1) + x2) + 1) : Int32).toNatClampNeg))), hs E M)) ∧ (¬ ((M 61) (((25 * x1) + x2) : Int32).toNatClampNeg) = ((M 61) ((((25 * x1) + x2) + 1) : Int32).toNatClampNeg) → res = (some (.int ((0 + (9 * ((M 62) ((((25 * x1) + x2) + 1) : Int32).toNatClampNeg))) + ((M 61) ((((25 * x1) + x2) + 1) : Int32).toNatClampNeg))), hs E M))))))) ∧ (¬ ((M 62) ((((25 * x1) + x2) + 1) : Int32).toNatClampNeg) ≤ ((M 62) (((25 * x1) + x2) : Int32).toNatClampNeg) → (inb ((25 * x1) + x2) 750 ∧ (inb ((25 * x1) + x2) 750 ∧ (inb (((25 * x1) + x2) + 1) 750 ∧ ((((M 61) (((25 * x1) + x2) : Int32).toNatClampNeg) = ((M 61) ((((25 * x1) + x2) + 1) : Int32).toNatClampNeg) → res = (some (.int ((81 + (9 * ((M 62) (((25 * x1) + x2) : Int32).toNatClampNeg))) + ((M 61) ((((25 * x1) + x2) + 1) : Int32).toNatClampNeg))), hs E M)) ∧ (¬ ((M 61) (((25 * x1) + x2) : Int32).toNatClampNeg) = ((M 61) ((((25 * x1) + x2) + 1) : Int32).toNatClampNeg) → res = (some (.int ((0 + (9 * ((M 62) (((25 * x1) + x2) : Int32).toNatClampNeg))) + ((M 61) ((((25 * x1) + x2) + 1) : Int32).toNatClampNeg))), hs E M)))))))))))) ∧ (¬ ((M 61) ((((25 * x1) + x2) + 1) : Int32).toNatClampNeg) ≤ ((M 61) (((25 * x1) + x2) : Int32).toNatClampNeg) → (inb ((25 * x1) + x2) 750 ∧ (inb ((25 * x1) + x2) 750 ∧ (inb (((25 * x1) + x2) + 1) 750 ∧ ((((M 62) ((((25 * x1) + x2) + 1) : Int32).toNatClampNeg) ≤ ((M 62) (((25 * x1) + x2) : Int32).toNatClampNeg) → (inb (((25 * x1) + x2) + 1) 750 ∧ (inb ((25 * x1) + x2) 750 ∧ (inb (((25 * x1) + x2) + 1) 750 ∧ ((((M 61) (((25 * x1) + x2) : Int32).toNatClampNeg) = ((M 61) ((((25 * x1) + x2) + 1) : Int32).toNatClampNeg) → res = (some (.int ((81 + (9 * ((M 62) ((((25 * x1) + x2) + 1) : Int32).toNatClampNeg))) + ((M 61) (((25 * x1) + x2) : Int32).toNatClampNeg))), hs E M)) ∧ (¬ ((M 61) (((25 * x1) + x2) : Int32).toNatClampNeg) = ((M 61) ((((25 * x1) + x2) + 1) : Int32).toNatClampNeg) → res = (some (.int ((0 + (9 * ((M 62) ((((25 * x1) + x2) + 1) : Int32).toNatClampNeg))) + ((M 61) (((25 * x1) + x2) : Int32).toNatClampNeg))), hs E M))))))) ∧ (¬ ((M 62) ((((25 * x1) + x2) + 1) : Int32).toNatClampNeg) ≤ ((M 62) (((25 * x1) + x2) : Int32).toNatClampNeg) → (inb ((25 * x1) + x2) 750 ∧ (inb ((25 * x1) + x2) 750 ∧ (inb (((25 * x1) + x2) + 1) 750 ∧ ((((M 61) (((25 * x1) + x2) : Int32).toNatClampNeg) = ((M 61) ((((25 * x1) + x2) + 1) : Int32).toNatClampNeg) → res = (some (.int ((81 + (9 * ((M 62) (((25 * x1) + x2) : Int32).toNatClampNeg))) + ((M 61) (((25 * x1) + x2) : Int32).toNatClampNeg))), hs E M)) ∧ (¬ ((M 61) (((25 * x1) + x2) : Int32).toNatClampNeg) = ((M 61) ((((25 * x1) + x2) + 1) : Int32).toNatClampNeg) → res = (some (.int ((0 + (9 * ((M 62) (((25 * x1) + x2) : Int32).toNatClampNeg))) + ((M 61) (((25 * x1) + x2) : Int32).toNatClampNeg))), hs E M)))))))))))))))) : Ev 1 223 0 [some (.ref 59), some (.int x1), some (.int x2), none, none, none] [] (hs E M) res := by
  refine Ev.steps 9 (pc' := 12) (L' := [some (.ref 59), some (.int x1), some (.int x2), some (.int ((25 * x1) + x2)), none, none]) (st' := [.int ((25 * x1) + x2), .ref 61]) rfl ?_
  refine Ev.rd (i := ((25 * x1) + x2)) (n := 750) (pc' := 13) (L' := [some (.ref 59), some (.int x1), some (.int x2), some (.int ((25 * x1) + x2)), none, none]) (st' := [.int ((M 61) (((25 * x1) + x2) : Int32).toNatClampNeg)]) H.1 rfl ?_
  replace H := H.2
  refine Ev.steps 5 (pc' := 20) (L' := [some (.ref 59), some (.int x1), some (.int x2), some (.int ((25 * x1) + x2)), none, none]) (st' := [.int (((25 * x1) + x2) + 1), .ref 61, .int ((M 61) (((25 * x1) + x2) : Int32).toNatClampNeg)]) rfl ?_
  refine Ev.rd (i := (((25 * x1) + x2) + 1)) (n := 750) (pc' := 21) (L' := [some (.ref 59), some (.int x1), some (.int x2), some (.int ((25 * x1) + x2)), none, none]) (st' := [.int ((M 61) ((((25 * x1) + x2) + 1) : Int32).toNatClampNeg), .int ((M 61) (((25 * x1) + x2) : Int32).toNatClampNeg)]) H.1 rfl ?_
  replace H := H.2
  refine Ev.steps 1 (pc' := if ((M 61) ((((25 * x1) + x2) + 1) : Int32).toNatClampNeg) ≤ ((M 61) (((25 * x1) + x2) : Int32).toNatClampNeg) then 33 else 24) (L' := [some (.ref 59), some (.int x1), some (.int x2), some (.int ((25 * x1) + x2)), none, none]) (st' := []) rfl ?_
  refine Ev_ite (fun hc => ?_) (fun hc => ?_)
  · replace H := H.1 hc
    refine Ev.steps 5 (pc' := 40) (L' := [some (.ref 59), some (.int x1), some (.int x2), some (.int ((25 * x1) + x2)), none, none]) (st' := [.int (((25 * x1) + x2) + 1), .ref 61]) rfl ?_
    refine Ev.rd (i := (((25 * x1) + x2) + 1)) (n := 750) (pc' := 41) (L' := [some (.ref 59), some (.int x1), some (.int x2), some (.int ((25 * x1) + x2)), none, none]) (st' := [.int ((M 61) ((((25 * x1) + x2) + 1) : Int32).toNatClampNeg)]) H.1 rfl ?_
    replace H := H.2
    refine Ev.steps 4 (pc' := 48) (L' := [some (.ref 59), some (.int x1), some (.int x2), some (.int ((25 * x1) + x2)), some (.int ((M 61) ((((25 * x1) + x2) + 1) : Int32).toNatClampNeg)), none]) (st' := [.int ((25 * x1) + x2), .ref 62]) rfl ?_
    refine Ev.rd (i := ((25 * x1) + x2)) (n := 750) (pc' := 49) (L' := [some (.ref 59), some (.int x1), some (.int x2), some (.int ((25 * x1) + x2)), some (.int ((M 61) ((((25 * x1) + x2) + 1) : Int32).toNatClampNeg)), none]) (st' := [.int ((M 62) (((25 * x1) + x2) : Int32).toNatClampNeg)]) H.1 rfl ?_
    replace H := H.2
    refine Ev.steps 5 (pc' := 56) (L' := [some (.ref 59), some (.int x1), some (.int x2), some (.int ((25 * x1) + x2)), some (.int ((M 61) ((((25 * x1) + x2) + 1) : Int32).toNatClampNeg)), none]) (st' := [.int (((25 * x1) + x2) + 1), .ref 62, .int ((M 62) (((25 * x1) + x2) : Int32).toNatClampNeg)]) rfl ?_
    refine Ev.rd (i := (((25 * x1) + x2) + 1)) (n := 750) (pc' := 57) (L' := [some (.ref 59), some (.int x1), some (.int x2), some (.int ((25 * x1) + x2)), some (.int ((M 61) ((((25 * x1) + x2) + 1) : Int32).toNatClampNeg)), none]) (st' := [.int ((M 62) ((((25 * x1) + x2) + 1) : Int32).toNatClampNeg), .int ((M 62) (((25 * x1) + x2) : Int32).toNatClampNeg)]) H.1 rfl ?_
    replace H := H.2
    refine Ev.steps 1 (pc' := if ((M 62) ((((25 * x1) + x2) + 1) : Int32).toNatClampNeg) ≤ ((M 62) (((25 * x1) + x2) : Int32).toNatClampNeg) then 69 else 60) (L' := [some (.ref 59), some (.int x1), some (.int x2), some (.int ((25 * x1) + x2)), some (.int ((M 61) ((((25 * x1) + x2) + 1) : Int32).toNatClampNeg)), none]) (st' := []) rfl ?_
    refine Ev_ite (fun hc => ?_) (fun hc => ?_)
    · replace H := H.1 hc
      refine Ev.steps 5 (pc' := 76) (L' := [some (.ref 59), some (.int x1), some (.int x2), some (.int ((25 * x1) + x2)), some (.int ((M 61) ((((25 * x1) + x2) + 1) : Int32).toNatClampNeg)), none]) (st' := [.int (((25 * x1) + x2) + 1), .ref 62]) rfl ?_
      refine Ev.rd (i := (((25 * x1) + x2) + 1)) (n := 750) (pc' := 77) (L' := [some (.ref 59), some (.int x1), some (.int x2), some (.int ((25 * x1) + x2)), some (.int ((M 61) ((((25 * x1) + x2) + 1) : Int32).toNatClampNeg)), none]) (st' := [.int ((M 62) ((((25 * x1) + x2) + 1) : Int32).toNatClampNeg)]) H.1 rfl ?_
      replace H := H.2
      refine Ev.steps 4 (pc' := 84) (L' := [some (.ref 59), some (.int x1), some (.int x2), some (.int ((25 * x1) + x2)), some (.int ((M 61) ((((25 * x1) + x2) + 1) : Int32).toNatClampNeg)), some (.int ((M 62) ((((25 * x1) + x2) + 1) : Int32).toNatClampNeg))]) (st' := [.int ((25 * x1) + x2), .ref 61]) rfl ?_
      refine Ev.rd (i := ((25 * x1) + x2)) (n := 750) (pc' := 85) (L' := [some (.ref 59), some (.int x1), some (.int x2), some (.int ((25 * x1) + x2)), some (.int ((M 61) ((((25 * x1) + x2) + 1) : Int32).toNatClampNeg)), some (.int ((M 62) ((((25 * x1) + x2) + 1) : Int32).toNatClampNeg))]) (st' := [.int ((M 61) (((25 * x1) + x2) : Int32).toNatClampNeg)]) H.1 rfl ?_
      replace H := H.2
      refine Ev.steps 5 (pc' := 92) (L' := [some (.ref 59), some (.int x1), some (.int x2), some (.int ((25 * x1) + x2)), some (.int ((M 61) ((((25 * x1) + x2) + 1) : Int32).toNatClampNeg)), some (.int ((M 62) ((((25 * x1) + x2) + 1) : Int32).toNatClampNeg))]) (st' := [.int (((25 * x1) + x2) + 1), .ref 61, .int ((M 61) (((25 * x1) + x2) : Int32).toNatClampNeg)]) rfl ?_
      refine Ev.rd (i := (((25 * x1) + x2) + 1)) (n := 750) (pc' := 93) (L' := [some (.ref 59), some (.int x1), some (.int x2), some (.int ((25 * x1) + x2)), some (.int ((M 61) ((((25 * x1) + x2) + 1) : Int32).toNatClampNeg)), some (.int ((M 62) ((((25 * x1) + x2) + 1) : Int32).toNatClampNeg))]) (st' := [.int ((M 61) ((((25 * x1) + x2) + 1) : Int32).toNatClampNeg), .int ((M 61) (((25 * x1) + x2) : Int32).toNatClampNeg)]) H.1 rfl ?_
      replace H := H.2
      refine Ev.steps 1 (pc' := if ((M 61) (((25 * x1) + x2) : Int32).toNatClampNeg) = ((M 61) ((((25 * x1) + x2) + 1) : Int32).toNatClampNeg) then 96 else 101) (L' := [some (.ref 59), some (.int x1), some (.int x2), some (.int ((25 * x1) + x2)), some (.int ((M 61) ((((25 * x1) + x2) + 1) : Int32).toNatClampNeg)), some (.int ((M 62) ((((25 * x1) + x2) + 1) : Int32).toNatClampNeg))]) (st' := []) rfl ?_
      refine Ev_ite (fun hc => ?_) (fun hc => ?_)
      · replace H := H.1 hc
        refine Ev.steps 8 (pc' := 111) (L' := [some (.ref 59), some (.int x1), some (.int x2), some (.int ((25 * x1) + x2)), some (.int ((M 61) ((((25 * x1) + x2) + 1) : Int32).toNatClampNeg)), some (.int ((M 62) ((((25 * x1) + x2) + 1) : Int32).toNatClampNeg))]) (st' := [.int ((81 + (9 * ((M 62) ((((25 * x1) + x2) + 1) : Int32).toNatClampNeg))) + ((M 61) ((((25 * x1) + x2) + 1) : Int32).toNatClampNeg))]) rfl ?_
        subst H
        exact Ev.ret rfl
      · replace H := H.2 hc
        refine Ev.steps 7 (pc' := 111) (L' := [some (.ref 59), some (.int x1), some (.int x2), some (.int ((25 * x1) + x2)), some (.int ((M 61) ((((25 * x1) + x2) + 1) : Int32).toNatClampNeg)), some (.int ((M 62) ((((25 * x1) + x2) + 1) : Int32).toNatClampNeg))]) (st' := [.int ((0 + (9 * ((M 62) ((((25 * x1) + x2) + 1) : Int32).toNatClampNeg))) + ((M 61) ((((25 * x1) + x2) + 1) : Int32).toNatClampNeg))]) rfl ?_
        subst H
        exact Ev.ret rfl
    · replace H := H.2 hc
      refine Ev.steps 3 (pc' := 65) (L' := [some (.ref 59), some (.int x1), some (.int x2), some (.int ((25 * x1) + x2)), some (.int ((M 61) ((((25 * x1) + x2) + 1) : Int32).toNatClampNeg)), none]) (st' := [.int ((25 * x1) + x2), .ref 62]) rfl ?_
      refine Ev.rd (i := ((25 * x1) + x2)) (n := 750) (pc' := 66) (L' := [some (.ref 59), some (.int x1), some (.int x2), some (.int ((25 * x1) + x2)), some (.int ((M 61) ((((25 * x1) + x2) + 1) : Int32).toNatClampNeg)), none]) (st' := [.int ((M 62) (((25 * x1) + x2) : Int32).toNatClampNeg)]) H.1 rfl ?_
      replace H := H.2
      refine Ev.steps 5 (pc' := 84) (L' := [some (.ref 59), some (.int x1), some (.int x2), some (.int ((25 * x1) + x2)), some (.int ((M 61) ((((25 * x1) + x2) + 1) : Int32).toNatClampNeg)), some (.int ((M 62) (((25 * x1) + x2) : Int32).toNatClampNeg))]) (st' := [.int ((25 * x1) + x2), .ref 61]) rfl ?_
      refine Ev.rd (i := ((25 * x1) + x2)) (n := 750) (pc' := 85) (L' := [some (.ref 59), some (.int x1), some (.int x2), some (.int ((25 * x1) + x2)), some (.int ((M 61) ((((25 * x1) + x2) + 1) : Int32).toNatClampNeg)), some (.int ((M 62) (((25 * x1) + x2) : Int32).toNatClampNeg))]) (st' := [.int ((M 61) (((25 * x1) + x2) : Int32).toNatClampNeg)]) H.1 rfl ?_
      replace H := H.2
      refine Ev.steps 5 (pc' := 92) (L' := [some (.ref 59), some (.int x1), some (.int x2), some (.int ((25 * x1) + x2)), some (.int ((M 61) ((((25 * x1) + x2) + 1) : Int32).toNatClampNeg)), some (.int ((M 62) (((25 * x1) + x2) : Int32).toNatClampNeg))]) (st' := [.int (((25 * x1) + x2) + 1), .ref 61, .int ((M 61) (((25 * x1) + x2) : Int32).toNatClampNeg)]) rfl ?_
      refine Ev.rd (i := (((25 * x1) + x2) + 1)) (n := 750) (pc' := 93) (L' := [some (.ref 59), some (.int x1), some (.int x2), some (.int ((25 * x1) + x2)), some (.int ((M 61) ((((25 * x1) + x2) + 1) : Int32).toNatClampNeg)), some (.int ((M 62) (((25 * x1) + x2) : Int32).toNatClampNeg))]) (st' := [.int ((M 61) ((((25 * x1) + x2) + 1) : Int32).toNatClampNeg), .int ((M 61) (((25 * x1) + x2) : Int32).toNatClampNeg)]) H.1 rfl ?_
      replace H := H.2
      refine Ev.steps 1 (pc' := if ((M 61) (((25 * x1) + x2) : Int32).toNatClampNeg) = ((M 61) ((((25 * x1) + x2) + 1) : Int32).toNatClampNeg) then 96 else 101) (L' := [some (.ref 59), some (.int x1), some (.int x2), some (.int ((25 * x1) + x2)), some (.int ((M 61) ((((25 * x1) + x2) + 1) : Int32).toNatClampNeg)), some (.int ((M 62) (((25 * x1) + x2) : Int32).toNatClampNeg))]) (st' := []) rfl ?_
      refine Ev_ite (fun hc => ?_) (fun hc => ?_)
      · replace H := H.1 hc
        refine Ev.steps 8 (pc' := 111) (L' := [some (.ref 59), some (.int x1), some (.int x2), some (.int ((25 * x1) + x2)), some (.int ((M 61) ((((25 * x1) + x2) + 1) : Int32).toNatClampNeg)), some (.int ((M 62) (((25 * x1) + x2) : Int32).toNatClampNeg))]) (st' := [.int ((81 + (9 * ((M 62) (((25 * x1) + x2) : Int32).toNatClampNeg))) + ((M 61) ((((25 * x1) + x2) + 1) : Int32).toNatClampNeg))]) rfl ?_
        subst H
        exact Ev.ret rfl
      · replace H := H.2 hc
        refine Ev.steps 7 (pc' := 111) (L' := [some (.ref 59), some (.int x1), some (.int x2), some (.int ((25 * x1) + x2)), some (.int ((M 61) ((((25 * x1) + x2) + 1) : Int32).toNatClampNeg)), some (.int ((M 62) (((25 * x1) + x2) : Int32).toNatClampNeg))]) (st' := [.int ((0 + (9 * ((M 62) (((25 * x1) + x2) : Int32).toNatClampNeg))) + ((M 61) ((((25 * x1) + x2) + 1) : Int32).toNatClampNeg))]) rfl ?_
        subst H
        exact Ev.ret rfl
  · replace H := H.2 hc
    refine Ev.steps 3 (pc' := 29) (L' := [some (.ref 59), some (.int x1), some (.int x2), some (.int ((25 * x1) + x2)), none, none]) (st' := [.int ((25 * x1) + x2), .ref 61]) rfl ?_
    refine Ev.rd (i := ((25 * x1) + x2)) (n := 750) (pc' := 30) (L' := [some (.ref 59), some (.int x1), some (.int x2), some (.int ((25 * x1) + x2)), none, none]) (st' := [.int ((M 61) (((25 * x1) + x2) : Int32).toNatClampNeg)]) H.1 rfl ?_
    replace H := H.2
    refine Ev.steps 5 (pc' := 48) (L' := [some (.ref 59), some (.int x1), some (.int x2), some (.int ((25 * x1) + x2)), some (.int ((M 61) (((25 * x1) + x2) : Int32).toNatClampNeg)), none]) (st' := [.int ((25 * x1) + x2), .ref 62]) rfl ?_
    refine Ev.rd (i := ((25 * x1) + x2)) (n := 750) (pc' := 49) (L' := [some (.ref 59), some (.int x1), some (.int x2), some (.int ((25 * x1) + x2)), some (.int ((M 61) (((25 * x1) + x2) : Int32).toNatClampNeg)), none]) (st' := [.int ((M 62) (((25 * x1) + x2) : Int32).toNatClampNeg)]) H.1 rfl ?_
    replace H := H.2
    refine Ev.steps 5 (pc' := 56) (L' := [some (.ref 59), some (.int x1), some (.int x2), some (.int ((25 * x1) + x2)), some (.int ((M 61) (((25 * x1) + x2) : Int32).toNatClampNeg)), none]) (st' := [.int (((25 * x1) + x2) + 1), .ref 62, .int ((M 62) (((25 * x1) + x2) : Int32).toNatClampNeg)]) rfl ?_
    refine Ev.rd (i := (((25 * x1) + x2) + 1)) (n := 750) (pc' := 57) (L' := [some (.ref 59), some (.int x1), some (.int x2), some (.int ((25 * x1) + x2)), some (.int ((M 61) (((25 * x1) + x2) : Int32).toNatClampNeg)), none]) (st' := [.int ((M 62) ((((25 * x1) + x2) + 1) : Int32).toNatClampNeg), .int ((M 62) (((25 * x1) + x2) : Int32).toNatClampNeg)]) H.1 rfl ?_
    replace H := H.2
    refine Ev.steps 1 (pc' := if ((M 62) ((((25 * x1) + x2) + 1) : Int32).toNatClampNeg) ≤ ((M 62) (((25 * x1) + x2) : Int32).toNatClampNeg) then 69 else 60) (L' := [some (.ref 59), some (.int x1), some (.int x2), some (.int ((25 * x1) + x2)), some (.int ((M 61) (((25 * x1) + x2) : Int32).toNatClampNeg)), none]) (st' := []) rfl ?_
    refine Ev_ite (fun hc => ?_) (fun hc => ?_)
    · replace H := H.1 hc
      refine Ev.steps 5 (pc' := 76) (L' := [some (.ref 59), some (.int x1), some (.int x2), some (.int ((25 * x1) + x2)), some (.int ((M 61) (((25 * x1) + x2) : Int32).toNatClampNeg)), none]) (st' := [.int (((25 * x1) + x2) + 1), .ref 62]) rfl ?_
      refine Ev.rd (i := (((25 * x1) + x2) + 1)) (n := 750) (pc' := 77) (L' := [some (.ref 59), some (.int x1), some (.int x2), some (.int ((25 * x1) + x2)), some (.int ((M 61) (((25 * x1) + x2) : Int32).toNatClampNeg)), none]) (st' := [.int ((M 62) ((((25 * x1) + x2) + 1) : Int32).toNatClampNeg)]) H.1 rfl ?_
      replace H := H.2
      refine Ev.steps 4 (pc' := 84) (L' := [some (.ref 59), some (.int x1), some (.int x2), some (.int ((25 * x1) + x2)), some (.int ((M 61) (((25 * x1) + x2) : Int32).toNatClampNeg)), some (.int ((M 62) ((((25 * x1) + x2) + 1) : Int32).toNatClampNeg))]) (st' := [.int ((25 * x1) + x2), .ref 61]) rfl ?_
      refine Ev.rd (i := ((25 * x1) + x2)) (n := 750) (pc' := 85) (L' := [some (.ref 59), some (.int x1), some (.int x2), some (.int ((25 * x1) + x2)), some (.int ((M 61) (((25 * x1) + x2) : Int32).toNatClampNeg)), some (.int ((M 62) ((((25 * x1) + x2) + 1) : Int32).toNatClampNeg))]) (st' := [.int ((M 61) (((25 * x1) + x2) : Int32).toNatClampNeg)]) H.1 rfl ?_
      replace H := H.2
      refine Ev.steps 5 (pc' := 92) (L' := [some (.ref 59), some (.int x1), some (.int x2), some (.int ((25 * x1) + x2)), some (.int ((M 61) (((25 * x1) + x2) : Int32).toNatClampNeg)), some (.int ((M 62) ((((25 * x1) + x2) + 1) : Int32).toNatClampNeg))]) (st' := [.int (((25 * x1) + x2) + 1), .ref 61, .int ((M 61) (((25 * x1) + x2) : Int32).toNatClampNeg)]) rfl ?_
      refine Ev.rd (i := (((25 * x1) + x2) + 1)) (n := 750) (pc' := 93) (L' := [some (.ref 59), some (.int x1), some (.int x2), some (.int ((25 * x1) + x2)), some (.int ((M 61) (((25 * x1) + x2) : Int32).toNatClampNeg)), some (.int ((M 62) ((((25 * x1) + x2) + 1) : Int32).toNatClampNeg))]) (st' := [.int ((M 61) ((((25 * x1) + x2) + 1) : Int32).toNatClampNeg), .int ((M 61) (((25 * x1) + x2) : Int32).toNatClampNeg)]) H.1 rfl ?_
      replace H := H.2
      refine Ev.steps 1 (pc' := if ((M 61) (((25 * x1) + x2) : Int32).toNatClampNeg) = ((M 61) ((((25 * x1) + x2) + 1) : Int32).toNatClampNeg) then 96 else 101) (L' := [some (.ref 59), some (.int x1), some (.int x2), some (.int ((25 * x1) + x2)), some (.int ((M 61) (((25 * x1) + x2) : Int32).toNatClampNeg)), some (.int ((M 62) ((((25 * x1) + x2) + 1) : Int32).toNatClampNeg))]) (st' := []) rfl ?_
      refine Ev_ite (fun hc => ?_) (fun hc => ?_)
      · replace H := H.1 hc
        refine Ev.steps 8 (pc' := 111) (L' := [some (.ref 59), some (.int x1), some (.int x2), some (.int ((25 * x1) + x2)), some (.int ((M 61) (((25 * x1) + x2) : Int32).toNatClampNeg)), some (.int ((M 62) ((((25 * x1) + x2) + 1) : Int32).toNatClampNeg))]) (st' := [.int ((81 + (9 * ((M 62) ((((25 * x1) + x2) + 1) : Int32).toNatClampNeg))) + ((M 61) (((25 * x1) + x2) : Int32).toNatClampNeg))]) rfl ?_
        subst H
        exact Ev.ret rfl
      · replace H := H.2 hc
        refine Ev.steps 7 (pc' := 111) (L' := [some (.ref 59), some (.int x1), some (.int x2), some (.int ((25 * x1) + x2)), some (.int ((M 61) (((25 * x1) + x2) : Int32).toNatClampNeg)), some (.int ((M 62) ((((25 * x1) + x2) + 1) : Int32).toNatClampNeg))]) (st' := [.int ((0 + (9 * ((M 62) ((((25 * x1) + x2) + 1) : Int32).toNatClampNeg))) + ((M 61) (((25 * x1) + x2) : Int32).toNatClampNeg))]) rfl ?_
        subst H
        exact Ev.ret rfl
    · replace H := H.2 hc
      refine Ev.steps 3 (pc' := 65) (L' := [some (.ref 59), some (.int x1), some (.int x2), some (.int ((25 * x1) + x2)), some (.int ((M 61) (((25 * x1) + x2) : Int32).toNatClampNeg)), none]) (st' := [.int ((25 * x1) + x2), .ref 62]) rfl ?_
      refine Ev.rd (i := ((25 * x1) + x2)) (n := 750) (pc' := 66) (L' := [some (.ref 59), some (.int x1), some (.int x2), some (.int ((25 * x1) + x2)), some (.int ((M 61) (((25 * x1) + x2) : Int32).toNatClampNeg)), none]) (st' := [.int ((M 62) (((25 * x1) + x2) : Int32).toNatClampNeg)]) H.1 rfl ?_
      replace H := H.2
      refine Ev.steps 5 (pc' := 84) (L' := [some (.ref 59), some (.int x1), some (.int x2), some (.int ((25 * x1) + x2)), some (.int ((M 61) (((25 * x1) + x2) : Int32).toNatClampNeg)), some (.int ((M 62) (((25 * x1) + x2) : Int32).toNatClampNeg))]) (st' := [.int ((25 * x1) + x2), .ref 61]) rfl ?_
      refine Ev.rd (i := ((25 * x1) + x2)) (n := 750) (pc' := 85) (L' := [some (.ref 59), some (.int x1), some (.int x2), some (.int ((25 * x1) + x2)), some (.int ((M 61) (((25 * x1) + x2) : Int32).toNatClampNeg)), some (.int ((M 62) (((25 * x1) + x2) : Int32).toNatClampNeg))]) (st' := [.int ((M 61) (((25 * x1) + x2) : Int32).toNatClampNeg)]) H.1 rfl ?_
      replace H := H.2
      refine Ev.steps 5 (pc' := 92) (L' := [some (.ref 59), some (.int x1), some (.int x2), some (.int ((25 * x1) + x2)), some (.int ((M 61) (((25 * x1) + x2) : Int32).toNatClampNeg)), some (.int ((M 62) (((25 * x1) + x2) : Int32).toNatClampNeg))]) (st' := [.int (((25 * x1) + x2) + 1), .ref 61, .int ((M 61) (((25 * x1) + x2) : Int32).toNatClampNeg)]) rfl ?_
      refine Ev.rd (i := (((25 * x1) + x2) + 1)) (n := 750) (pc' := 93) (L' := [some (.ref 59), some (.int x1), some (.int x2), some (.int ((25 * x1) + x2)), some (.int ((M 61) (((25 * x1) + x2) : Int32).toNatClampNeg)), some (.int ((M 62) (((25 * x1) + x2) : Int32).toNatClampNeg))]) (st' := [.int ((M 61) ((((25 * x1) + x2) + 1) : Int32).toNatClampNeg), .int ((M 61) (((25 * x1) + x2) : Int32).toNatClampNeg)]) H.1 rfl ?_
      replace H := H.2
      refine Ev.steps 1 (pc' := if ((M 61) (((25 * x1) + x2) : Int32).toNatClampNeg) = ((M 61) ((((25 * x1) + x2) + 1) : Int32).toNatClampNeg) then 96 else 101) (L' := [some (.ref 59), some (.int x1), some (.int x2), some (.int ((25 * x1) + x2)), some (.int ((M 61) (((25 * x1) + x2) : Int32).toNatClampNeg)), some (.int ((M 62) (((25 * x1) + x2) : Int32).toNatClampNeg))]) (st' := []) rfl ?_
      refine Ev_ite (fun hc => ?_) (fun hc => ?_)
      · replace H := H.1 hc
        refine Ev.steps 8 (pc' := 111) (L' := [some (.ref 59), some (.int x1), some (.int x2), some (.int ((25 * x1) + x2)), some (.int ((M 61) (((25 * x1) + x2) : Int32).toNatClampNeg)), some (.int ((M 62) (((25 * x1) + x2) : Int32).toNatClampNeg))]) (st' := [.int ((81 + (9 * ((M 62) (((25 * x1) + x2) : Int32).toNatClampNeg))) + ((M 61) (((25 * x1) + x2) : Int32).toNatClampNeg))]) rfl ?_
        subst H
        exact Ev.ret rfl
      · replace H := H.2 hc
        refine Ev.steps 7 (pc' := 111) (L' := [some (.ref 59), some (.int x1), some (.int x2), some (.int ((25 * x1) + x2)), some (.int ((M 61) (((25 * x1) + x2) : Int32).toNatClampNeg)), some (.int ((M 62) (((25 * x1) + x2) : Int32).toNatClampNeg))]) (st' := [.int ((0 + (9 * ((M 62) (((25 * x1) + x2) : Int32).toNatClampNeg))) + ((M 61) (((25 * x1) + x2) : Int32).toNatClampNeg))]) rfl ?_
        subst H
        exact Ev.ret rfl

def F223 (M : Mem) (x1 : Int32) (x2 : Int32) : Int32 := (if ((M 61) ((((25 * x1) + x2) + 1) : Int32).toNatClampNeg) ≤ ((M 61) (((25 * x1) + x2) : Int32).toNatClampNeg) then (if ((M 62) ((((25 * x1) + x2) + 1) : Int32).toNatClampNeg) ≤ ((M 62) (((25 * x1) + x2) : Int32).toNatClampNeg) then (if ((M 61) (((25 * x1) + x2) : Int32).toNatClampNeg) = ((M 61) ((((25 * x1) + x2) + 1) : Int32).toNatClampNeg) then ((81 + (9 * ((M 62) ((((25 * x1) + x2) + 1) : Int32).toNatClampNeg))) + ((M 61) ((((25 * x1) + x2) + 1) : Int32).toNatClampNeg)) else ((0 + (9 * ((M 62) ((((25 * x1) + x2) + 1) : Int32).toNatClampNeg))) + ((M 61) ((((25 * x1) + x2) + 1) : Int32).toNatClampNeg))) else (if ((M 61) (((25 * x1) + x2) : Int32).toNatClampNeg) = ((M 61) ((((25 * x1) + x2) + 1) : Int32).toNatClampNeg) then ((81 + (9 * ((M 62) (((25 * x1) + x2) : Int32).toNatClampNeg))) + ((M 61) ((((25 * x1) + x2) + 1) : Int32).toNatClampNeg)) else ((0 + (9 * ((M 62) (((25 * x1) + x2) : Int32).toNatClampNeg))) + ((M 61) ((((25 * x1) + x2) + 1) : Int32).toNatClampNeg)))) else (if ((M 62) ((((25 * x1) + x2) + 1) : Int32).toNatClampNeg) ≤ ((M 62) (((25 * x1) + x2) : Int32).toNatClampNeg) then (if ((M 61) (((25 * x1) + x2) : Int32).toNatClampNeg) = ((M 61) ((((25 * x1) + x2) + 1) : Int32).toNatClampNeg) then ((81 + (9 * ((M 62) ((((25 * x1) + x2) + 1) : Int32).toNatClampNeg))) + ((M 61) (((25 * x1) + x2) : Int32).toNatClampNeg)) else ((0 + (9 * ((M 62) ((((25 * x1) + x2) + 1) : Int32).toNatClampNeg))) + ((M 61) (((25 * x1) + x2) : Int32).toNatClampNeg))) else (if ((M 61) (((25 * x1) + x2) : Int32).toNatClampNeg) = ((M 61) ((((25 * x1) + x2) + 1) : Int32).toNatClampNeg) then ((81 + (9 * ((M 62) (((25 * x1) + x2) : Int32).toNatClampNeg))) + ((M 61) (((25 * x1) + x2) : Int32).toNatClampNeg)) else ((0 + (9 * ((M 62) (((25 * x1) + x2) : Int32).toNatClampNeg))) + ((M 61) (((25 * x1) + x2) : Int32).toNatClampNeg)))))
def P223 (M : Mem) (x1 : Int32) (x2 : Int32) : Prop := (inb ((25 * x1) + x2) 750 ∧ (inb (((25 * x1) + x2) + 1) 750 ∧ ((((M 61) ((((25 * x1) + x2) + 1) : Int32).toNatClampNeg) ≤ ((M 61) (((25 * x1) + x2) : Int32).toNatClampNeg) → (inb (((25 * x1) + x2) + 1) 750 ∧ (inb ((25 * x1) + x2) 750 ∧ (inb (((25 * x1) + x2) + 1) 750 ∧ ((((M 62) ((((25 * x1) + x2) + 1) : Int32).toNatClampNeg) ≤ ((M 62) (((25 * x1) + x2) : Int32).toNatClampNeg) → (inb (((25 * x1) + x2) + 1) 750 ∧ (inb ((25 * x1) + x2) 750 ∧ (inb (((25 * x1) + x2) + 1) 750)))) ∧ (¬ ((M 62) ((((25 * x1) + x2) + 1) : Int32).toNatClampNeg) ≤ ((M 62) (((25 * x1) + x2) : Int32).toNatClampNeg) → (inb ((25 * x1) + x2) 750 ∧ (inb ((25 * x1) + x2) 750 ∧ (inb (((25 * x1) + x2) + 1) 750))))))))) ∧ (¬ ((M 61) ((((25 * x1) + x2) + 1) : Int32).toNatClampNeg) ≤ ((M 61) (((25 * x1) + x2) : Int32).toNatClampNeg) → (inb ((25 * x1) + x2) 750 ∧ (inb ((25 * x1) + x2) 750 ∧ (inb (((25 * x1) + x2) + 1) 750 ∧ ((((M 62) ((((25 * x1) + x2) + 1) : Int32).toNatClampNeg) ≤ ((M 62) (((25 * x1) + x2) : Int32).toNatClampNeg) → (inb (((25 * x1) + x2) + 1) 750 ∧ (inb ((25 * x1) + x2) 750 ∧ (inb (((25 * x1) + x2) + 1) 750)))) ∧ (¬ ((M 62) ((((25 * x1) + x2) + 1) : Int32).toNatClampNeg) ≤ ((M 62) (((25 * x1) + x2) : Int32).toNatClampNeg) → (inb ((25 * x1) + x2) 750 ∧ (inb ((25 * x1) + x2) 750 ∧ (inb (((25 * x1) + x2) + 1) 750))))))))))))
theorem s223 {E : gw_N} {M : Mem} {x1 : Int32} {x2 : Int32} (H : P223 M x1 x2) : Rn 223 [.ref 59, .int x1, .int x2] (hs E M) (some (.int (F223 M x1 x2))) (hs E M) :=
  w223_0 (⟨H.1, ⟨H.2.1, ⟨fun h0 => ⟨(H.2.2.1 h0).1, ⟨(H.2.2.1 h0).2.1, ⟨(H.2.2.1 h0).2.2.1, ⟨fun h1 => ⟨((H.2.2.1 h0).2.2.2.1 h1).1, ⟨((H.2.2.1 h0).2.2.2.1 h1).2.1, ⟨((H.2.2.1 h0).2.2.2.1 h1).2.2, ⟨fun h2 => gw_reteq (((if_pos h0).trans (if_pos h1)).trans (if_pos h2)), fun h2 => gw_reteq (((if_pos h0).trans (if_pos h1)).trans (if_neg h2))⟩⟩⟩⟩, fun h1 => ⟨((H.2.2.1 h0).2.2.2.2 h1).1, ⟨((H.2.2.1 h0).2.2.2.2 h1).2.1, ⟨((H.2.2.1 h0).2.2.2.2 h1).2.2, ⟨fun h2 => gw_reteq (((if_pos h0).trans (if_neg h1)).trans (if_pos h2)), fun h2 => gw_reteq (((if_pos h0).trans (if_neg h1)).trans (if_neg h2))⟩⟩⟩⟩⟩⟩⟩⟩, fun h0 => ⟨(H.2.2.2 h0).1, ⟨(H.2.2.2 h0).2.1, ⟨(H.2.2.2 h0).2.2.1, ⟨fun h1 => ⟨((H.2.2.2 h0).2.2.2.1 h1).1, ⟨((H.2.2.2 h0).2.2.2.1 h1).2.1, ⟨((H.2.2.2 h0).2.2.2.1 h1).2.2, ⟨fun h2 => gw_reteq (((if_neg h0).trans (if_pos h1)).trans (if_pos h2)), fun h2 => gw_reteq (((if_neg h0).trans (if_pos h1)).trans (if_neg h2))⟩⟩⟩⟩, fun h1 => ⟨((H.2.2.2 h0).2.2.2.2 h1).1, ⟨((H.2.2.2 h0).2.2.2.2 h1).2.1, ⟨((H.2.2.2 h0).2.2.2.2 h1).2.2, ⟨fun h2 => gw_reteq (((if_neg h0).trans (if_neg h1)).trans (if_pos h2)), fun h2 => gw_reteq (((if_neg h0).trans (if_neg h1)).trans (if_neg h2))⟩⟩⟩⟩⟩⟩⟩⟩⟩⟩⟩)
-- 226 GlassWiresModel bendsOf (I)I
theorem w226_0 {E : gw_N} {M : Mem} {res : Option Value × gw_H} {x1 : Int32} (H : Ev 1 226 4 [some (.ref 59), some (.int x1), some (.int 0), some (.int 1), none, none] [] (hs E M) res) : Ev 1 226 0 [some (.ref 59), some (.int x1), none, none, none, none] [] (hs E M) res := by
  refine Ev.steps 4 (pc' := 4) (L' := [some (.ref 59), some (.int x1), some (.int 0), some (.int 1), none, none]) (st' := []) rfl ?_
  exact Ev.weak [some (.ref 59), some (.int x1), some (.int 0), some (.int 1), none, none] (gw_leb_le ⟨rfl, rfl, rfl, rfl, trivial⟩) H

theorem w226_4 {E : gw_N} {M : Mem} {res : Option Value × gw_H} {x1 : Int32} {x2 : Int32} {x3 : Int32} (H : (inb x1 30 ∧ ((((M 63) (x1 : Int32).toNatClampNeg) ≤ x3 → res = (some (.int x2), hs E M)) ∧ (¬ ((M 63) (x1 : Int32).toNatClampNeg) ≤ x3 → (inb (((25 * x1) + x3) + 1) 750 ∧ (inb ((25 * x1) + x3) 750 ∧ (inb ((25 * x1) + x3) 750 ∧ (inb (((25 * x1) + x3) - 1) 750 ∧ (((((M 61) ((((25 * x1) + x3) + 1) : Int32).toNatClampNeg) - ((M 61) (((25 * x1) + x3) : Int32).toNatClampNeg)) = (((M 61) (((25 * x1) + x3) : Int32).toNatClampNeg) - ((M 61) ((((25 * x1) + x3) - 1) : Int32).toNatClampNeg)) → (inb (((25 * x1) + x3) + 1) 750 ∧ (inb ((25 * x1) + x3) 750 ∧ (inb ((25 * x1) + x3) 750 ∧ (inb (((25 * x1) + x3) - 1) 750 ∧ (((((M 62) ((((25 * x1) + x3) + 1) : Int32).toNatClampNeg) - ((M 62) (((25 * x1) + x3) : Int32).toNatClampNeg)) = (((M 62) (((25 * x1) + x3) : Int32).toNatClampNeg) - ((M 62) ((((25 * x1) + x3) - 1) : Int32).toNatClampNeg)) → Ev 1 226 4 [some (.ref 59), some (.int x1), some (.int (x2 + 0)), some (.int (x3 + 1)), none, none] [] (hs E M) res) ∧ (¬ (((M 62) ((((25 * x1) + x3) + 1) : Int32).toNatClampNeg) - ((M 62) (((25 * x1) + x3) : Int32).toNatClampNeg)) = (((M 62) (((25 * x1) + x3) : Int32).toNatClampNeg) - ((M 62) ((((25 * x1) + x3) - 1) : Int32).toNatClampNeg)) → Ev 1 226 4 [some (.ref 59), some (.int x1), some (.int (x2 + 1)), some (.int (x3 + 1)), none, none] [] (hs E M) res))))))) ∧ (¬ (((M 61) ((((25 * x1) + x3) + 1) : Int32).toNatClampNeg) - ((M 61) (((25 * x1) + x3) : Int32).toNatClampNeg)) = (((M 61) (((25 * x1) + x3) : Int32).toNatClampNeg) - ((M 61) ((((25 * x1) + x3) - 1) : Int32).toNatClampNeg)) → Ev 1 226 4 [some (.ref 59), some (.int x1), some (.int (x2 + 1)), some (.int (x3 + 1)), none, none] [] (hs E M) res)))))))))) : Ev 1 226 4 [some (.ref 59), some (.int x1), some (.int x2), some (.int x3), none, none] [] (hs E M) res := by
  refine Ev.steps 4 (pc' := 10) (L' := [some (.ref 59), some (.int x1), some (.int x2), some (.int x3), none, none]) (st' := [.int x1, .ref 63, .int x3]) rfl ?_
  refine Ev.rd (i := x1) (n := 30) (pc' := 11) (L' := [some (.ref 59), some (.int x1), some (.int x2), some (.int x3), none, none]) (st' := [.int ((M 63) (x1 : Int32).toNatClampNeg), .int x3]) H.1 rfl ?_
  replace H := H.2
  refine Ev.steps 1 (pc' := if ((M 63) (x1 : Int32).toNatClampNeg) ≤ x3 then 122 else 14) (L' := [some (.ref 59), some (.int x1), some (.int x2), some (.int x3), none, none]) (st' := []) rfl ?_
  refine Ev_ite (fun hc => ?_) (fun hc => ?_)
  · replace H := H.1 hc
    refine Ev.steps 1 (pc' := 123) (L' := [some (.ref 59), some (.int x1), some (.int x2), some (.int x3), none, none]) (st' := [.int x2]) rfl ?_
    subst H
    exact Ev.ret rfl
  · replace H := H.2 hc
    refine Ev.steps 11 (pc' := 30) (L' := [some (.ref 59), some (.int x1), some (.int x2), some (.int x3), some (.int ((25 * x1) + x3)), none]) (st' := [.int (((25 * x1) + x3) + 1), .ref 61]) rfl ?_
    refine Ev.rd (i := (((25 * x1) + x3) + 1)) (n := 750) (pc' := 31) (L' := [some (.ref 59), some (.int x1), some (.int x2), some (.int x3), some (.int ((25 * x1) + x3)), none]) (st' := [.int ((M 61) ((((25 * x1) + x3) + 1) : Int32).toNatClampNeg)]) H.1 rfl ?_
    replace H := H.2
    refine Ev.steps 3 (pc' := 37) (L' := [some (.ref 59), some (.int x1), some (.int x2), some (.int x3), some (.int ((25 * x1) + x3)), none]) (st' := [.int ((25 * x1) + x3), .ref 61, .int ((M 61) ((((25 * x1) + x3) + 1) : Int32).toNatClampNeg)]) rfl ?_
    refine Ev.rd (i := ((25 * x1) + x3)) (n := 750) (pc' := 38) (L' := [some (.ref 59), some (.int x1), some (.int x2), some (.int x3), some (.int ((25 * x1) + x3)), none]) (st' := [.int ((M 61) (((25 * x1) + x3) : Int32).toNatClampNeg), .int ((M 61) ((((25 * x1) + x3) + 1) : Int32).toNatClampNeg)]) H.1 rfl ?_
    replace H := H.2
    refine Ev.steps 4 (pc' := 45) (L' := [some (.ref 59), some (.int x1), some (.int x2), some (.int x3), some (.int ((25 * x1) + x3)), none]) (st' := [.int ((25 * x1) + x3), .ref 61, .int (((M 61) ((((25 * x1) + x3) + 1) : Int32).toNatClampNeg) - ((M 61) (((25 * x1) + x3) : Int32).toNatClampNeg))]) rfl ?_
    refine Ev.rd (i := ((25 * x1) + x3)) (n := 750) (pc' := 46) (L' := [some (.ref 59), some (.int x1), some (.int x2), some (.int x3), some (.int ((25 * x1) + x3)), none]) (st' := [.int ((M 61) (((25 * x1) + x3) : Int32).toNatClampNeg), .int (((M 61) ((((25 * x1) + x3) + 1) : Int32).toNatClampNeg) - ((M 61) (((25 * x1) + x3) : Int32).toNatClampNeg))]) H.1 rfl ?_
    replace H := H.2
    refine Ev.steps 5 (pc' := 54) (L' := [some (.ref 59), some (.int x1), some (.int x2), some (.int x3), some (.int ((25 * x1) + x3)), none]) (st' := [.int (((25 * x1) + x3) - 1), .ref 61, .int ((M 61) (((25 * x1) + x3) : Int32).toNatClampNeg), .int (((M 61) ((((25 * x1) + x3) + 1) : Int32).toNatClampNeg) - ((M 61) (((25 * x1) + x3) : Int32).toNatClampNeg))]) rfl ?_
    refine Ev.rd (i := (((25 * x1) + x3) - 1)) (n := 750) (pc' := 55) (L' := [some (.ref 59), some (.int x1), some (.int x2), some (.int x3), some (.int ((25 * x1) + x3)), none]) (st' := [.int ((M 61) ((((25 * x1) + x3) - 1) : Int32).toNatClampNeg), .int ((M 61) (((25 * x1) + x3) : Int32).toNatClampNeg), .int (((M 61) ((((25 * x1) + x3) + 1) : Int32).toNatClampNeg) - ((M 61) (((25 * x1) + x3) : Int32).toNatClampNeg))]) H.1 rfl ?_
    replace H := H.2
    refine Ev.steps 2 (pc' := if (((M 61) ((((25 * x1) + x3) + 1) : Int32).toNatClampNeg) - ((M 61) (((25 * x1) + x3) : Int32).toNatClampNeg)) = (((M 61) (((25 * x1) + x3) : Int32).toNatClampNeg) - ((M 61) ((((25 * x1) + x3) - 1) : Int32).toNatClampNeg)) then 59 else 100) (L' := [some (.ref 59), some (.int x1), some (.int x2), some (.int x3), some (.int ((25 * x1) + x3)), none]) (st' := []) rfl ?_
    refine Ev_ite (fun hc => ?_) (fun hc => ?_)
    · replace H := H.1 hc
      refine Ev.steps 5 (pc' := 67) (L' := [some (.ref 59), some (.int x1), some (.int x2), some (.int x3), some (.int ((25 * x1) + x3)), none]) (st' := [.int (((25 * x1) + x3) + 1), .ref 62]) rfl ?_
      refine Ev.rd (i := (((25 * x1) + x3) + 1)) (n := 750) (pc' := 68) (L' := [some (.ref 59), some (.int x1), some (.int x2), some (.int x3), some (.int ((25 * x1) + x3)), none]) (st' := [.int ((M 62) ((((25 * x1) + x3) + 1) : Int32).toNatClampNeg)]) H.1 rfl ?_
      replace H := H.2
      refine Ev.steps 3 (pc' := 74) (L' := [some (.ref 59), some (.int x1), some (.int x2), some (.int x3), some (.int ((25 * x1) + x3)), none]) (st' := [.int ((25 * x1) + x3), .ref 62, .int ((M 62) ((((25 * x1) + x3) + 1) : Int32).toNatClampNeg)]) rfl ?_
      refine Ev.rd (i := ((25 * x1) + x3)) (n := 750) (pc' := 75) (L' := [some (.ref 59), some (.int x1), some (.int x2), some (.int x3), some (.int ((25 * x1) + x3)), none]) (st' := [.int ((M 62) (((25 * x1) + x3) : Int32).toNatClampNeg), .int ((M 62) ((((25 * x1) + x3) + 1) : Int32).toNatClampNeg)]) H.1 rfl ?_
      replace H := H.2
      refine Ev.steps 4 (pc' := 82) (L' := [some (.ref 59), some (.int x1), some (.int x2), some (.int x3), some (.int ((25 * x1) + x3)), none]) (st' := [.int ((25 * x1) + x3), .ref 62, .int (((M 62) ((((25 * x1) + x3) + 1) : Int32).toNatClampNeg) - ((M 62) (((25 * x1) + x3) : Int32).toNatClampNeg))]) rfl ?_
      refine Ev.rd (i := ((25 * x1) + x3)) (n := 750) (pc' := 83) (L' := [some (.ref 59), some (.int x1), some (.int x2), some (.int x3), some (.int ((25 * x1) + x3)), none]) (st' := [.int ((M 62) (((25 * x1) + x3) : Int32).toNatClampNeg), .int (((M 62) ((((25 * x1) + x3) + 1) : Int32).toNatClampNeg) - ((M 62) (((25 * x1) + x3) : Int32).toNatClampNeg))]) H.1 rfl ?_
      replace H := H.2
      refine Ev.steps 5 (pc' := 91) (L' := [some (.ref 59), some (.int x1), some (.int x2), some (.int x3), some (.int ((25 * x1) + x3)), none]) (st' := [.int (((25 * x1) + x3) - 1), .ref 62, .int ((M 62) (((25 * x1) + x3) : Int32).toNatClampNeg), .int (((M 62) ((((25 * x1) + x3) + 1) : Int32).toNatClampNeg) - ((M 62) (((25 * x1) + x3) : Int32).toNatClampNeg))]) rfl ?_
      refine Ev.rd (i := (((25 * x1) + x3) - 1)) (n := 750) (pc' := 92) (L' := [some (.ref 59), some (.int x1), some (.int x2), some (.int x3), some (.int ((25 * x1) + x3)), none]) (st' := [.int ((M 62) ((((25 * x1) + x3) - 1) : Int32).toNatClampNeg), .int ((M 62) (((25 * x1) + x3) : Int32).toNatClampNeg), .int (((M 62) ((((25 * x1) + x3) + 1) : Int32).toNatClampNeg) - ((M 62) (((25 * x1) + x3) : Int32).toNatClampNeg))]) H.1 rfl ?_
      replace H := H.2
      refine Ev.steps 2 (pc' := if (((M 62) ((((25 * x1) + x3) + 1) : Int32).toNatClampNeg) - ((M 62) (((25 * x1) + x3) : Int32).toNatClampNeg)) = (((M 62) (((25 * x1) + x3) : Int32).toNatClampNeg) - ((M 62) ((((25 * x1) + x3) - 1) : Int32).toNatClampNeg)) then 96 else 100) (L' := [some (.ref 59), some (.int x1), some (.int x2), some (.int x3), some (.int ((25 * x1) + x3)), none]) (st' := []) rfl ?_
      refine Ev_ite (fun hc => ?_) (fun hc => ?_)
      · replace H := H.1 hc
        refine Ev.steps 12 (pc' := 4) (L' := [some (.ref 59), some (.int x1), some (.int (x2 + 0)), some (.int (x3 + 1)), some (.int ((25 * x1) + x3)), some (.int 1)]) (st' := []) rfl ?_
        exact Ev.weak [some (.ref 59), some (.int x1), some (.int (x2 + 0)), some (.int (x3 + 1)), none, none] (gw_leb_le ⟨rfl, rfl, rfl, rfl, trivial⟩) H
      · replace H := H.2 hc
        refine Ev.steps 10 (pc' := 4) (L' := [some (.ref 59), some (.int x1), some (.int (x2 + 1)), some (.int (x3 + 1)), some (.int ((25 * x1) + x3)), some (.int 0)]) (st' := []) rfl ?_
        exact Ev.weak [some (.ref 59), some (.int x1), some (.int (x2 + 1)), some (.int (x3 + 1)), none, none] (gw_leb_le ⟨rfl, rfl, rfl, rfl, trivial⟩) H
    · replace H := H.2 hc
      refine Ev.steps 10 (pc' := 4) (L' := [some (.ref 59), some (.int x1), some (.int (x2 + 1)), some (.int (x3 + 1)), some (.int ((25 * x1) + x3)), some (.int 0)]) (st' := []) rfl ?_
      exact Ev.weak [some (.ref 59), some (.int x1), some (.int (x2 + 1)), some (.int (x3 + 1)), none, none] (gw_leb_le ⟨rfl, rfl, rfl, rfl, trivial⟩) H

-- 228 GlassWiresModel comesTo (III)Z
theorem w228_0 {E : gw_N} {M : Mem} {res : Option Value × gw_H} {x1 : Int32} {x2 : Int32} {x3 : Int32} (H : Ev 1 228 6 [some (.ref 59), some (.int x1), some (.int x2), some (.int x3), some (.int 0), some (.int 0)] [] (hs E M) res) : Ev 1 228 0 [some (.ref 59), some (.int x1), some (.int x2), some (.int x3), none, none] [] (hs E M) res := by
  refine Ev.steps 4 (pc' := 6) (L' := [some (.ref 59), some (.int x1), some (.int x2), some (.int x3), some (.int 0), some (.int 0)]) (st' := []) rfl ?_
  exact Ev.weak [some (.ref 59), some (.int x1), some (.int x2), some (.int x3), some (.int 0), some (.int 0)] (gw_leb_le ⟨rfl, rfl, rfl, rfl, rfl, rfl, trivial⟩) H

theorem w228_6 {E : gw_N} {M : Mem} {res : Option Value × gw_H} {x1 : Int32} {x2 : Int32} {x3 : Int32} {x4 : Int32} {x5 : Int32} (H : (inb x1 30 ∧ ((((M 63) (x1 : Int32).toNatClampNeg) < x5 → (x4 &&& 1 = x4 ∧ res = (some (.int x4), hs E M))) ∧ (¬ ((M 63) (x1 : Int32).toNatClampNeg) < x5 → ((x4 = 0 → (inb ((25 * x1) + x5) 750 ∧ ((((M 61) (((25 * x1) + x5) : Int32).toNatClampNeg) = x2 → (inb ((25 * x1) + x5) 750 ∧ ((((M 62) (((25 * x1) + x5) : Int32).toNatClampNeg) = x3 → Ev 1 228 6 [some (.ref 59), some (.int x1), some (.int x2), some (.int x3), some (.int 1), some (.int (x5 + 1))] [] (hs E M) res) ∧ (¬ ((M 62) (((25 * x1) + x5) : Int32).toNatClampNeg) = x3 → Ev 1 228 6 [some (.ref 59), some (.int x1), some (.int x2), some (.int x3), some (.int 0), some (.int (x5 + 1))] [] (hs E M) res)))) ∧ (¬ ((M 61) (((25 * x1) + x5) : Int32).toNatClampNeg) = x2 → Ev 1 228 6 [some (.ref 59), some (.int x1), some (.int x2), some (.int x3), some (.int 0), some (.int (x5 + 1))] [] (hs E M) res)))) ∧ (¬ x4 = 0 → Ev 1 228 6 [some (.ref 59), some (.int x1), some (.int x2), some (.int x3), some (.int 1), some (.int (x5 + 1))] [] (hs E M) res)))))) : Ev 1 228 6 [some (.ref 59), some (.int x1), some (.int x2), some (.int x3), some (.int x4), some (.int x5)] [] (hs E M) res := by
  refine Ev.steps 4 (pc' := 13) (L' := [some (.ref 59), some (.int x1), some (.int x2), some (.int x3), some (.int x4), some (.int x5)]) (st' := [.int x1, .ref 63, .int x5]) rfl ?_
  refine Ev.rd (i := x1) (n := 30) (pc' := 14) (L' := [some (.ref 59), some (.int x1), some (.int x2), some (.int x3), some (.int x4), some (.int x5)]) (st' := [.int ((M 63) (x1 : Int32).toNatClampNeg), .int x5]) H.1 rfl ?_
  replace H := H.2
  refine Ev.steps 1 (pc' := if ((M 63) (x1 : Int32).toNatClampNeg) < x5 then 67 else 17) (L' := [some (.ref 59), some (.int x1), some (.int x2), some (.int x3), some (.int x4), some (.int x5)]) (st' := []) rfl ?_
  refine Ev_ite (fun hc => ?_) (fun hc => ?_)
  · replace H := H.1 hc
    refine Ev.steps 1 (pc' := 69) (L' := [some (.ref 59), some (.int x1), some (.int x2), some (.int x3), some (.int x4), some (.int x5)]) (st' := [.int x4]) rfl ?_
    obtain ⟨H1, H⟩ := H
    subst H
    exact Ev.ret (if_pos H1)
  · replace H := H.2 hc
    refine Ev.steps 2 (pc' := if x4 = 0 then 22 else 54) (L' := [some (.ref 59), some (.int x1), some (.int x2), some (.int x3), some (.int x4), some (.int x5)]) (st' := []) rfl ?_
    refine Ev_ite (fun hc => ?_) (fun hc => ?_)
    · replace H := H.1 hc
      refine Ev.steps 7 (pc' := 33) (L' := [some (.ref 59), some (.int x1), some (.int x2), some (.int x3), some (.int x4), some (.int x5)]) (st' := [.int ((25 * x1) + x5), .ref 61]) rfl ?_
      refine Ev.rd (i := ((25 * x1) + x5)) (n := 750) (pc' := 34) (L' := [some (.ref 59), some (.int x1), some (.int x2), some (.int x3), some (.int x4), some (.int x5)]) (st' := [.int ((M 61) (((25 * x1) + x5) : Int32).toNatClampNeg)]) H.1 rfl ?_
      replace H := H.2
      refine Ev.steps 2 (pc' := if ((M 61) (((25 * x1) + x5) : Int32).toNatClampNeg) = x2 then 38 else 58) (L' := [some (.ref 59), some (.int x1), some (.int x2), some (.int x3), some (.int x4), some (.int x5)]) (st' := []) rfl ?_
      refine Ev_ite (fun hc => ?_) (fun hc => ?_)
      · replace H := H.1 hc
        refine Ev.steps 7 (pc' := 49) (L' := [some (.ref 59), some (.int x1), some (.int x2), some (.int x3), some (.int x4), some (.int x5)]) (st' := [.int ((25 * x1) + x5), .ref 62]) rfl ?_
        refine Ev.rd (i := ((25 * x1) + x5)) (n := 750) (pc' := 50) (L' := [some (.ref 59), some (.int x1), some (.int x2), some (.int x3), some (.int x4), some (.int x5)]) (st' := [.int ((M 62) (((25 * x1) + x5) : Int32).toNatClampNeg)]) H.1 rfl ?_
        replace H := H.2
        refine Ev.steps 2 (pc' := if ((M 62) (((25 * x1) + x5) : Int32).toNatClampNeg) = x3 then 54 else 58) (L' := [some (.ref 59), some (.int x1), some (.int x2), some (.int x3), some (.int x4), some (.int x5)]) (st' := []) rfl ?_
        refine Ev_ite (fun hc => ?_) (fun hc => ?_)
        · replace H := H.1 hc
          refine Ev.steps 5 (pc' := 6) (L' := [some (.ref 59), some (.int x1), some (.int x2), some (.int x3), some (.int 1), some (.int (x5 + 1))]) (st' := []) rfl ?_
          exact Ev.weak [some (.ref 59), some (.int x1), some (.int x2), some (.int x3), some (.int 1), some (.int (x5 + 1))] (gw_leb_le ⟨rfl, rfl, rfl, rfl, rfl, rfl, trivial⟩) H
        · replace H := H.2 hc
          refine Ev.steps 4 (pc' := 6) (L' := [some (.ref 59), some (.int x1), some (.int x2), some (.int x3), some (.int 0), some (.int (x5 + 1))]) (st' := []) rfl ?_
          exact Ev.weak [some (.ref 59), some (.int x1), some (.int x2), some (.int x3), some (.int 0), some (.int (x5 + 1))] (gw_leb_le ⟨rfl, rfl, rfl, rfl, rfl, rfl, trivial⟩) H
      · replace H := H.2 hc
        refine Ev.steps 4 (pc' := 6) (L' := [some (.ref 59), some (.int x1), some (.int x2), some (.int x3), some (.int 0), some (.int (x5 + 1))]) (st' := []) rfl ?_
        exact Ev.weak [some (.ref 59), some (.int x1), some (.int x2), some (.int x3), some (.int 0), some (.int (x5 + 1))] (gw_leb_le ⟨rfl, rfl, rfl, rfl, rfl, rfl, trivial⟩) H
    · replace H := H.2 hc
      refine Ev.steps 5 (pc' := 6) (L' := [some (.ref 59), some (.int x1), some (.int x2), some (.int x3), some (.int 1), some (.int (x5 + 1))]) (st' := []) rfl ?_
      exact Ev.weak [some (.ref 59), some (.int x1), some (.int x2), some (.int x3), some (.int 1), some (.int (x5 + 1))] (gw_leb_le ⟨rfl, rfl, rfl, rfl, rfl, rfl, trivial⟩) H

-- 235 GlassWiresModel edge (III)I
theorem w235_0 {E : gw_N} {M : Mem} {res : Option Value × gw_H} {x0 : Int32} {x1 : Int32} {x2 : Int32} (H : res = (some (.int (((81 * x2) + (9 * x1)) + x0)), hs E M)) : Ev 1 235 0 [some (.int x0), some (.int x1), some (.int x2)] [] (hs E M) res := by
  refine Ev.steps 9 (pc' := 11) (L' := [some (.int x0), some (.int x1), some (.int x2)]) (st' := [.int (((81 * x2) + (9 * x1)) + x0)]) rfl ?_
  subst H
  exact Ev.ret rfl

def F235 (M : Mem) (x0 : Int32) (x1 : Int32) (x2 : Int32) : Int32 := (((81 * x2) + (9 * x1)) + x0)
theorem s235 {E : gw_N} {M : Mem} {x0 : Int32} {x1 : Int32} {x2 : Int32} : Rn 235 [.int x0, .int x1, .int x2] (hs E M) (some (.int (F235 M x0 x1 x2))) (hs E M) :=
  w235_0 (rfl)
-- 243 GlassWiresModel fields ()I
theorem w243_0 {E : gw_N} {M : Mem} {res : Option Value × gw_H}  (H : res = (some (.int (((M 59) 0) * ((M 59) 1))), hs E M)) : Ev 1 243 0 [some (.ref 59)] [] (hs E M) res := by
  refine Ev.steps 5 (pc' := 9) (L' := [some (.ref 59)]) (st' := [.int (((M 59) 0) * ((M 59) 1))]) rfl ?_
  subst H
  exact Ev.ret rfl

def F243 (M : Mem) : Int32 := (((M 59) 0) * ((M 59) 1))
theorem s243 {E : gw_N} {M : Mem} : Rn 243 [.ref 59] (hs E M) (some (.int (F243 M))) (hs E M) :=
  w243_0 (rfl)
-- 245 GlassWiresModel beside (II)I
theorem w245_0 {E : gw_N} {M : Mem} {res : Option Value × gw_H} {x1 : Int32} {x2 : Int32} (H : ((x2 = 0 → (¬ ((M 59) 0) = 0 ∧ ((((M 59) 0) ≤ ((x1 - x1 / ((M 59) 0) * ((M 59) 0)) + 1) → res = (some (.int (-1)), hs E M)) ∧ (¬ ((M 59) 0) ≤ ((x1 - x1 / ((M 59) 0) * ((M 59) 0)) + 1) → res = (some (.int (x1 + 1)), hs E M))))) ∧ (¬ x2 = 0 → (¬ ((M 59) 0) = 0 ∧ ((((M 59) 1) ≤ ((x1 / ((M 59) 0)) + 1) → res = (some (.int (-1)), hs E M)) ∧ (¬ ((M 59) 1) ≤ ((x1 / ((M 59) 0)) + 1) → res = (some (.int (x1 + ((M 59) 0))), hs E M))))))) : Ev 1 245 0 [some (.ref 59), some (.int x1), some (.int x2)] [] (hs E M) res := by
  refine Ev.steps 2 (pc' := if x2 = 0 then 4 else 27) (L' := [some (.ref 59), some (.int x1), some (.int x2)]) (st' := []) rfl ?_
  refine Ev_ite (fun hc => ?_) (fun hc => ?_)
  · replace H := H.1 hc
    refine Ev.steps 3 (pc' := 9) (L' := [some (.ref 59), some (.int x1), some (.int x2)]) (st' := [.int ((M 59) 0), .int x1]) rfl ?_
    refine Ev.dv (y := ((M 59) 0)) (pc' := 10) (L' := [some (.ref 59), some (.int x1), some (.int x2)]) (st' := [.int (x1 - x1 / ((M 59) 0) * ((M 59) 0))]) H.1 rfl ?_
    replace H := H.2
    refine Ev.steps 5 (pc' := if ((M 59) 0) ≤ ((x1 - x1 / ((M 59) 0) * ((M 59) 0)) + 1) then 25 else 19) (L' := [some (.ref 59), some (.int x1), some (.int x2)]) (st' := []) rfl ?_
    refine Ev_ite (fun hc => ?_) (fun hc => ?_)
    · replace H := H.1 hc
      refine Ev.steps 1 (pc' := 26) (L' := [some (.ref 59), some (.int x1), some (.int x2)]) (st' := [.int (-1)]) rfl ?_
      subst H
      exact Ev.ret rfl
    · replace H := H.2 hc
      refine Ev.steps 4 (pc' := 26) (L' := [some (.ref 59), some (.int x1), some (.int x2)]) (st' := [.int (x1 + 1)]) rfl ?_
      subst H
      exact Ev.ret rfl
  · replace H := H.2 hc
    refine Ev.steps 3 (pc' := 32) (L' := [some (.ref 59), some (.int x1), some (.int x2)]) (st' := [.int ((M 59) 0), .int x1]) rfl ?_
    refine Ev.dv (y := ((M 59) 0)) (pc' := 33) (L' := [some (.ref 59), some (.int x1), some (.int x2)]) (st' := [.int (x1 / ((M 59) 0))]) H.1 rfl ?_
    replace H := H.2
    refine Ev.steps 5 (pc' := if ((M 59) 1) ≤ ((x1 / ((M 59) 0)) + 1) then 51 else 42) (L' := [some (.ref 59), some (.int x1), some (.int x2)]) (st' := []) rfl ?_
    refine Ev_ite (fun hc => ?_) (fun hc => ?_)
    · replace H := H.1 hc
      refine Ev.steps 1 (pc' := 52) (L' := [some (.ref 59), some (.int x1), some (.int x2)]) (st' := [.int (-1)]) rfl ?_
      subst H
      exact Ev.ret rfl
    · replace H := H.2 hc
      refine Ev.steps 5 (pc' := 52) (L' := [some (.ref 59), some (.int x1), some (.int x2)]) (st' := [.int (x1 + ((M 59) 0))]) rfl ?_
      subst H
      exact Ev.ret rfl

def F245 (M : Mem) (x1 : Int32) (x2 : Int32) : Int32 := (if x2 = 0 then (if ((M 59) 0) ≤ ((x1 - x1 / ((M 59) 0) * ((M 59) 0)) + 1) then (-1) else (x1 + 1)) else (if ((M 59) 1) ≤ ((x1 / ((M 59) 0)) + 1) then (-1) else (x1 + ((M 59) 0))))
def P245 (M : Mem) (x1 : Int32) (x2 : Int32) : Prop := ((x2 = 0 → (¬ ((M 59) 0) = 0)) ∧ (¬ x2 = 0 → (¬ ((M 59) 0) = 0)))
theorem s245 {E : gw_N} {M : Mem} {x1 : Int32} {x2 : Int32} (H : P245 M x1 x2) : Rn 245 [.ref 59, .int x1, .int x2] (hs E M) (some (.int (F245 M x1 x2))) (hs E M) :=
  w245_0 (⟨fun h0 => ⟨(H.1 h0), ⟨fun h1 => gw_reteq ((if_pos h0).trans (if_pos h1)), fun h1 => gw_reteq ((if_pos h0).trans (if_neg h1))⟩⟩, fun h0 => ⟨(H.2 h0), ⟨fun h1 => gw_reteq ((if_neg h0).trans (if_pos h1)), fun h1 => gw_reteq ((if_neg h0).trans (if_neg h1))⟩⟩⟩)
-- 254 GlassWiresModel placeOf (I)I
theorem w254_0 {E : gw_N} {M : Mem} {res : Option Value × gw_H} {x1 : Int32} (H : Ev 1 254 2 [some (.ref 59), some (.int x1), some (.int 0)] [] (hs E M) res) : Ev 1 254 0 [some (.ref 59), some (.int x1), none] [] (hs E M) res := by
  refine Ev.steps 2 (pc' := 2) (L' := [some (.ref 59), some (.int x1), some (.int 0)]) (st' := []) rfl ?_
  exact Ev.weak [some (.ref 59), some (.int x1), some (.int 0)] (gw_leb_le ⟨rfl, rfl, rfl, trivial⟩) H

theorem w254_2 {E : gw_N} {M : Mem} {res : Option Value × gw_H} {x1 : Int32} {x2 : Int32} (H : (inb x2 64 ∧ ((((M 70) (x2 : Int32).toNatClampNeg) = x1 → res = (some (.int x2), hs E M)) ∧ (¬ ((M 70) (x2 : Int32).toNatClampNeg) = x1 → Ev 1 254 2 [some (.ref 59), some (.int x1), some (.int (x2 + 1))] [] (hs E M) res)))) : Ev 1 254 2 [some (.ref 59), some (.int x1), some (.int x2)] [] (hs E M) res := by
  refine Ev.steps 3 (pc' := 7) (L' := [some (.ref 59), some (.int x1), some (.int x2)]) (st' := [.int x2, .ref 70]) rfl ?_
  refine Ev.rd (i := x2) (n := 64) (pc' := 8) (L' := [some (.ref 59), some (.int x1), some (.int x2)]) (st' := [.int ((M 70) (x2 : Int32).toNatClampNeg)]) H.1 rfl ?_
  replace H := H.2
  refine Ev.steps 2 (pc' := if ((M 70) (x2 : Int32).toNatClampNeg) = x1 then 18 else 12) (L' := [some (.ref 59), some (.int x1), some (.int x2)]) (st' := []) rfl ?_
  refine Ev_ite (fun hc => ?_) (fun hc => ?_)
  · replace H := H.1 hc
    refine Ev.steps 1 (pc' := 19) (L' := [some (.ref 59), some (.int x1), some (.int x2)]) (st' := [.int x2]) rfl ?_
    subst H
    exact Ev.ret rfl
  · replace H := H.2 hc
    refine Ev.steps 2 (pc' := 2) (L' := [some (.ref 59), some (.int x1), some (.int (x2 + 1))]) (st' := []) rfl ?_
    exact Ev.weak [some (.ref 59), some (.int x1), some (.int (x2 + 1))] (gw_leb_le ⟨rfl, rfl, rfl, trivial⟩) H

-- 256 GlassWiresModel clashes (I)Z
theorem w256_0 {E : gw_N} {M : Mem} {res : Option Value × gw_H} {x1 : Int32} (H : Ev 1 256 4 [some (.ref 59), some (.int x1), some (.int 0), some (.int 0)] [] (hs E M) res) : Ev 1 256 0 [some (.ref 59), some (.int x1), none, none] [] (hs E M) res := by
  refine Ev.steps 4 (pc' := 4) (L' := [some (.ref 59), some (.int x1), some (.int 0), some (.int 0)]) (st' := []) rfl ?_
  exact Ev.weak [some (.ref 59), some (.int x1), some (.int 0), some (.int 0)] (gw_leb_le ⟨rfl, rfl, rfl, rfl, trivial⟩) H

theorem w256_4 {E : gw_N} {M : Mem} {res : Option Value × gw_H} {x1 : Int32} {x2 : Int32} {x3 : Int32} (H : ((x1 ≤ x3 → (x2 &&& 1 = x2 ∧ res = (some (.int x2), hs E M))) ∧ (¬ x1 ≤ x3 → ((x2 = 0 → (inb ((10 * x1) + x3) 100 ∧ ((((M 71) (((10 * x1) + x3) : Int32).toNatClampNeg) = 0 → Ev 1 256 4 [some (.ref 59), some (.int x1), some (.int 0), some (.int (x3 + 1))] [] (hs E M) res) ∧ (¬ ((M 71) (((10 * x1) + x3) : Int32).toNatClampNeg) = 0 → (inb x3 10 ∧ (inb x1 10 ∧ ((((M 72) (x3 : Int32).toNatClampNeg) = ((M 72) (x1 : Int32).toNatClampNeg) → Ev 1 256 4 [some (.ref 59), some (.int x1), some (.int 1), some (.int (x3 + 1))] [] (hs E M) res) ∧ (¬ ((M 72) (x3 : Int32).toNatClampNeg) = ((M 72) (x1 : Int32).toNatClampNeg) → Ev 1 256 4 [some (.ref 59), some (.int x1), some (.int 0), some (.int (x3 + 1))] [] (hs E M) res)))))))) ∧ (¬ x2 = 0 → Ev 1 256 4 [some (.ref 59), some (.int x1), some (.int 1), some (.int (x3 + 1))] [] (hs E M) res))))) : Ev 1 256 4 [some (.ref 59), some (.int x1), some (.int x2), some (.int x3)] [] (hs E M) res := by
  refine Ev.steps 3 (pc' := if x1 ≤ x3 then 54 else 9) (L' := [some (.ref 59), some (.int x1), some (.int x2), some (.int x3)]) (st' := []) rfl ?_
  refine Ev_ite (fun hc => ?_) (fun hc => ?_)
  · replace H := H.1 hc
    refine Ev.steps 1 (pc' := 55) (L' := [some (.ref 59), some (.int x1), some (.int x2), some (.int x3)]) (st' := [.int x2]) rfl ?_
    obtain ⟨H1, H⟩ := H
    subst H
    exact Ev.ret (if_pos H1)
  · replace H := H.2 hc
    refine Ev.steps 2 (pc' := if x2 = 0 then 13 else 42) (L' := [some (.ref 59), some (.int x1), some (.int x2), some (.int x3)]) (st' := []) rfl ?_
    refine Ev_ite (fun hc => ?_) (fun hc => ?_)
    · replace H := H.1 hc
      refine Ev.steps 7 (pc' := 23) (L' := [some (.ref 59), some (.int x1), some (.int x2), some (.int x3)]) (st' := [.int ((10 * x1) + x3), .ref 71]) rfl ?_
      refine Ev.rd (i := ((10 * x1) + x3)) (n := 100) (pc' := 24) (L' := [some (.ref 59), some (.int x1), some (.int x2), some (.int x3)]) (st' := [.int ((M 71) (((10 * x1) + x3) : Int32).toNatClampNeg)]) H.1 rfl ?_
      replace H := H.2
      refine Ev.steps 1 (pc' := if ((M 71) (((10 * x1) + x3) : Int32).toNatClampNeg) = 0 then 46 else 27) (L' := [some (.ref 59), some (.int x1), some (.int x2), some (.int x3)]) (st' := []) rfl ?_
      refine Ev_ite (fun hc => ?_) (fun hc => ?_)
      · replace H := H.1 hc
        refine Ev.steps 4 (pc' := 4) (L' := [some (.ref 59), some (.int x1), some (.int 0), some (.int (x3 + 1))]) (st' := []) rfl ?_
        exact Ev.weak [some (.ref 59), some (.int x1), some (.int 0), some (.int (x3 + 1))] (gw_leb_le ⟨rfl, rfl, rfl, rfl, trivial⟩) H
      · replace H := H.2 hc
        refine Ev.steps 3 (pc' := 32) (L' := [some (.ref 59), some (.int x1), some (.int x2), some (.int x3)]) (st' := [.int x3, .ref 72]) rfl ?_
        refine Ev.rd (i := x3) (n := 10) (pc' := 33) (L' := [some (.ref 59), some (.int x1), some (.int x2), some (.int x3)]) (st' := [.int ((M 72) (x3 : Int32).toNatClampNeg)]) H.1 rfl ?_
        replace H := H.2
        refine Ev.steps 3 (pc' := 38) (L' := [some (.ref 59), some (.int x1), some (.int x2), some (.int x3)]) (st' := [.int x1, .ref 72, .int ((M 72) (x3 : Int32).toNatClampNeg)]) rfl ?_
        refine Ev.rd (i := x1) (n := 10) (pc' := 39) (L' := [some (.ref 59), some (.int x1), some (.int x2), some (.int x3)]) (st' := [.int ((M 72) (x1 : Int32).toNatClampNeg), .int ((M 72) (x3 : Int32).toNatClampNeg)]) H.1 rfl ?_
        replace H := H.2
        refine Ev.steps 1 (pc' := if ((M 72) (x3 : Int32).toNatClampNeg) = ((M 72) (x1 : Int32).toNatClampNeg) then 42 else 46) (L' := [some (.ref 59), some (.int x1), some (.int x2), some (.int x3)]) (st' := []) rfl ?_
        refine Ev_ite (fun hc => ?_) (fun hc => ?_)
        · replace H := H.1 hc
          refine Ev.steps 5 (pc' := 4) (L' := [some (.ref 59), some (.int x1), some (.int 1), some (.int (x3 + 1))]) (st' := []) rfl ?_
          exact Ev.weak [some (.ref 59), some (.int x1), some (.int 1), some (.int (x3 + 1))] (gw_leb_le ⟨rfl, rfl, rfl, rfl, trivial⟩) H
        · replace H := H.2 hc
          refine Ev.steps 4 (pc' := 4) (L' := [some (.ref 59), some (.int x1), some (.int 0), some (.int (x3 + 1))]) (st' := []) rfl ?_
          exact Ev.weak [some (.ref 59), some (.int x1), some (.int 0), some (.int (x3 + 1))] (gw_leb_le ⟨rfl, rfl, rfl, rfl, trivial⟩) H
    · replace H := H.2 hc
      refine Ev.steps 5 (pc' := 4) (L' := [some (.ref 59), some (.int x1), some (.int 1), some (.int (x3 + 1))]) (st' := []) rfl ?_
      exact Ev.weak [some (.ref 59), some (.int x1), some (.int 1), some (.int (x3 + 1))] (gw_leb_le ⟨rfl, rfl, rfl, rfl, trivial⟩) H

-- 267 GlassWiresModel highOf (I)I
theorem w267_0 {E : gw_N} {M : Mem} {res : Option Value × gw_H} {x1 : Int32} (H : Ev 1 267 4 [some (.ref 59), some (.int x1), some (.int 0), some (.int 0)] [] (hs E M) res) : Ev 1 267 0 [some (.ref 59), some (.int x1), none, none] [] (hs E M) res := by
  refine Ev.steps 4 (pc' := 4) (L' := [some (.ref 59), some (.int x1), some (.int 0), some (.int 0)]) (st' := []) rfl ?_
  exact Ev.weak [some (.ref 59), some (.int x1), some (.int 0), some (.int 0)] (gw_leb_le ⟨rfl, rfl, rfl, rfl, trivial⟩) H

theorem w267_4 {E : gw_N} {M : Mem} {res : Option Value × gw_H} {x1 : Int32} {x2 : Int32} {x3 : Int32} (H : (inb x1 64 ∧ ((((M 77) (x1 : Int32).toNatClampNeg) ≤ x3 → res = (some (.int x2), hs E M)) ∧ (¬ ((M 77) (x1 : Int32).toNatClampNeg) ≤ x3 → (inb ((12 * x1) + x3) 768 ∧ Ev 1 267 4 [some (.ref 59), some (.int x1), some (.int (x2 + ((M 79) (((12 * x1) + x3) : Int32).toNatClampNeg))), some (.int (x3 + 1))] [] (hs E M) res))))) : Ev 1 267 4 [some (.ref 59), some (.int x1), some (.int x2), some (.int x3)] [] (hs E M) res := by
  refine Ev.steps 4 (pc' := 10) (L' := [some (.ref 59), some (.int x1), some (.int x2), some (.int x3)]) (st' := [.int x1, .ref 77, .int x3]) rfl ?_
  refine Ev.rd (i := x1) (n := 64) (pc' := 11) (L' := [some (.ref 59), some (.int x1), some (.int x2), some (.int x3)]) (st' := [.int ((M 77) (x1 : Int32).toNatClampNeg), .int x3]) H.1 rfl ?_
  replace H := H.2
  refine Ev.steps 1 (pc' := if ((M 77) (x1 : Int32).toNatClampNeg) ≤ x3 then 34 else 14) (L' := [some (.ref 59), some (.int x1), some (.int x2), some (.int x3)]) (st' := []) rfl ?_
  refine Ev_ite (fun hc => ?_) (fun hc => ?_)
  · replace H := H.1 hc
    refine Ev.steps 1 (pc' := 35) (L' := [some (.ref 59), some (.int x1), some (.int x2), some (.int x3)]) (st' := [.int x2]) rfl ?_
    subst H
    exact Ev.ret rfl
  · replace H := H.2 hc
    refine Ev.steps 8 (pc' := 25) (L' := [some (.ref 59), some (.int x1), some (.int x2), some (.int x3)]) (st' := [.int ((12 * x1) + x3), .ref 79, .int x2]) rfl ?_
    refine Ev.rd (i := ((12 * x1) + x3)) (n := 768) (pc' := 26) (L' := [some (.ref 59), some (.int x1), some (.int x2), some (.int x3)]) (st' := [.int ((M 79) (((12 * x1) + x3) : Int32).toNatClampNeg), .int x2]) H.1 rfl ?_
    replace H := H.2
    refine Ev.steps 4 (pc' := 4) (L' := [some (.ref 59), some (.int x1), some (.int (x2 + ((M 79) (((12 * x1) + x3) : Int32).toNatClampNeg))), some (.int (x3 + 1))]) (st' := []) rfl ?_
    exact Ev.weak [some (.ref 59), some (.int x1), some (.int (x2 + ((M 79) (((12 * x1) + x3) : Int32).toNatClampNeg))), some (.int (x3 + 1))] (gw_leb_le ⟨rfl, rfl, rfl, rfl, trivial⟩) H

-- 270 GlassWiresModel runsTo (III)Z
theorem w270_0 {E : gw_N} {M : Mem} {res : Option Value × gw_H} {x1 : Int32} {x2 : Int32} {x3 : Int32} (H : (inb x3 162 ∧ ((((M 67) (x3 : Int32).toNatClampNeg) ≤ 0 → res = (some (.int 0), hs E M)) ∧ (¬ ((M 67) (x3 : Int32).toNatClampNeg) ≤ 0 → (inb x1 64 ∧ ((((M 81) (x1 : Int32).toNatClampNeg) ≤ ((M 59) 22) → res = (some (.int 0), hs E M)) ∧ (¬ ((M 81) (x1 : Int32).toNatClampNeg) ≤ ((M 59) 22) → (inb x2 64 ∧ ((((M 59) 22) ≤ ((M 81) (x2 : Int32).toNatClampNeg) → res = (some (.int 0), hs E M)) ∧ (¬ ((M 59) 22) ≤ ((M 81) (x2 : Int32).toNatClampNeg) → res = (some (.int 1), hs E M))))))))))) : Ev 1 270 0 [some (.ref 59), some (.int x1), some (.int x2), some (.int x3)] [] (hs E M) res := by
  refine Ev.steps 3 (pc' := 5) (L' := [some (.ref 59), some (.int x1), some (.int x2), some (.int x3)]) (st' := [.int x3, .ref 67]) rfl ?_
  refine Ev.rd (i := x3) (n := 162) (pc' := 6) (L' := [some (.ref 59), some (.int x1), some (.int x2), some (.int x3)]) (st' := [.int ((M 67) (x3 : Int32).toNatClampNeg)]) H.1 rfl ?_
  replace H := H.2
  refine Ev.steps 1 (pc' := if ((M 67) (x3 : Int32).toNatClampNeg) ≤ 0 then 39 else 9) (L' := [some (.ref 59), some (.int x1), some (.int x2), some (.int x3)]) (st' := []) rfl ?_
  refine Ev_ite (fun hc => ?_) (fun hc => ?_)
  · replace H := H.1 hc
    refine Ev.steps 1 (pc' := 40) (L' := [some (.ref 59), some (.int x1), some (.int x2), some (.int x3)]) (st' := [.int 0]) rfl ?_
    subst H
    exact Ev.ret rfl
  · replace H := H.2 hc
    refine Ev.steps 3 (pc' := 14) (L' := [some (.ref 59), some (.int x1), some (.int x2), some (.int x3)]) (st' := [.int x1, .ref 81]) rfl ?_
    refine Ev.rd (i := x1) (n := 64) (pc' := 15) (L' := [some (.ref 59), some (.int x1), some (.int x2), some (.int x3)]) (st' := [.int ((M 81) (x1 : Int32).toNatClampNeg)]) H.1 rfl ?_
    replace H := H.2
    refine Ev.steps 3 (pc' := if ((M 81) (x1 : Int32).toNatClampNeg) ≤ ((M 59) 22) then 39 else 22) (L' := [some (.ref 59), some (.int x1), some (.int x2), some (.int x3)]) (st' := []) rfl ?_
    refine Ev_ite (fun hc => ?_) (fun hc => ?_)
    · replace H := H.1 hc
      refine Ev.steps 1 (pc' := 40) (L' := [some (.ref 59), some (.int x1), some (.int x2), some (.int x3)]) (st' := [.int 0]) rfl ?_
      subst H
      exact Ev.ret rfl
    · replace H := H.2 hc
      refine Ev.steps 3 (pc' := 27) (L' := [some (.ref 59), some (.int x1), some (.int x2), some (.int x3)]) (st' := [.int x2, .ref 81]) rfl ?_
      refine Ev.rd (i := x2) (n := 64) (pc' := 28) (L' := [some (.ref 59), some (.int x1), some (.int x2), some (.int x3)]) (st' := [.int ((M 81) (x2 : Int32).toNatClampNeg)]) H.1 rfl ?_
      replace H := H.2
      refine Ev.steps 3 (pc' := if ((M 59) 22) ≤ ((M 81) (x2 : Int32).toNatClampNeg) then 39 else 35) (L' := [some (.ref 59), some (.int x1), some (.int x2), some (.int x3)]) (st' := []) rfl ?_
      refine Ev_ite (fun hc => ?_) (fun hc => ?_)
      · replace H := H.1 hc
        refine Ev.steps 1 (pc' := 40) (L' := [some (.ref 59), some (.int x1), some (.int x2), some (.int x3)]) (st' := [.int 0]) rfl ?_
        subst H
        exact Ev.ret rfl
      · replace H := H.2 hc
        refine Ev.steps 2 (pc' := 40) (L' := [some (.ref 59), some (.int x1), some (.int x2), some (.int x3)]) (st' := [.int 1]) rfl ?_
        subst H
        exact Ev.ret rfl

def F270 (M : Mem) (x1 : Int32) (x2 : Int32) (x3 : Int32) : Int32 := (if ((M 67) (x3 : Int32).toNatClampNeg) ≤ 0 then 0 else (if ((M 81) (x1 : Int32).toNatClampNeg) ≤ ((M 59) 22) then 0 else (if ((M 59) 22) ≤ ((M 81) (x2 : Int32).toNatClampNeg) then 0 else 1)))
def P270 (M : Mem) (x1 : Int32) (x2 : Int32) (x3 : Int32) : Prop := (inb x3 162 ∧ ((((M 67) (x3 : Int32).toNatClampNeg) ≤ 0 → True) ∧ (¬ ((M 67) (x3 : Int32).toNatClampNeg) ≤ 0 → (inb x1 64 ∧ ((((M 81) (x1 : Int32).toNatClampNeg) ≤ ((M 59) 22) → True) ∧ (¬ ((M 81) (x1 : Int32).toNatClampNeg) ≤ ((M 59) 22) → (inb x2 64)))))))
theorem bb270 {M : Mem} {x1 : Int32} {x2 : Int32} {x3 : Int32} : F270 M x1 x2 x3 &&& 1 = F270 M x1 x2 x3 := by
  unfold F270
  (repeat' split) <;> first | rfl | decide
theorem s270 {E : gw_N} {M : Mem} {x1 : Int32} {x2 : Int32} {x3 : Int32} (H : P270 M x1 x2 x3) : Rn 270 [.ref 59, .int x1, .int x2, .int x3] (hs E M) (some (.int (F270 M x1 x2 x3))) (hs E M) :=
  w270_0 (⟨H.1, ⟨fun h0 => gw_reteq (if_pos h0), fun h0 => ⟨(H.2.2 h0).1, ⟨fun h1 => gw_reteq ((if_neg h0).trans (if_pos h1)), fun h1 => ⟨((H.2.2 h0).2.2 h1), ⟨fun h2 => gw_reteq (((if_neg h0).trans (if_neg h1)).trans (if_pos h2)), fun h2 => gw_reteq (((if_neg h0).trans (if_neg h1)).trans (if_neg h2))⟩⟩⟩⟩⟩⟩)
-- 272 GlassWiresModel takeOff (II)I
theorem w272_0 {E : gw_N} {M : Mem} {res : Option Value × gw_H} {x1 : Int32} {x2 : Int32} (H : (inb x1 64 ∧ (inb (((12 * x1) + ((M 77) (x1 : Int32).toNatClampNeg)) - 1) 768 ∧ ((((M 79) ((((12 * x1) + ((M 77) (x1 : Int32).toNatClampNeg)) - 1) : Int32).toNatClampNeg) ≤ x2 → (inb (((12 * x1) + ((M 77) (x1 : Int32).toNatClampNeg)) - 1) 768 ∧ (inb (((12 * x1) + ((M 77) (x1 : Int32).toNatClampNeg)) - 1) 768 ∧ (inb (((12 * x1) + ((M 77) (x1 : Int32).toNatClampNeg)) - 1) 768 ∧ (inb x1 64 ∧ (inb (((12 * x1) + ((M 77) (x1 : Int32).toNatClampNeg)) - 1) 768 ∧ ((((upd (M 79) ((((12 * x1) + ((M 77) (x1 : Int32).toNatClampNeg)) - 1) : Int32).toNatClampNeg (((M 79) ((((12 * x1) + ((M 77) (x1 : Int32).toNatClampNeg)) - 1) : Int32).toNatClampNeg) - ((M 79) ((((12 * x1) + ((M 77) (x1 : Int32).toNatClampNeg)) - 1) : Int32).toNatClampNeg))) ((((12 * x1) + ((M 77) (x1 : Int32).toNatClampNeg)) - 1) : Int32).toNatClampNeg) = 0 → (inb x1 64 ∧ res = (some (.int ((M 79) ((((12 * x1) + ((M 77) (x1 : Int32).toNatClampNeg)) - 1) : Int32).toNatClampNeg)), hs E (up (up M 79 (upd (M 79) ((((12 * x1) + ((M 77) (x1 : Int32).toNatClampNeg)) - 1) : Int32).toNatClampNeg (((M 79) ((((12 * x1) + ((M 77) (x1 : Int32).toNatClampNeg)) - 1) : Int32).toNatClampNeg) - ((M 79) ((((12 * x1) + ((M 77) (x1 : Int32).toNatClampNeg)) - 1) : Int32).toNatClampNeg)))) 77 (upd (M 77) (x1 : Int32).toNatClampNeg (((M 77) (x1 : Int32).toNatClampNeg) - 1)))))) ∧ (¬ ((upd (M 79) ((((12 * x1) + ((M 77) (x1 : Int32).toNatClampNeg)) - 1) : Int32).toNatClampNeg (((M 79) ((((12 * x1) + ((M 77) (x1 : Int32).toNatClampNeg)) - 1) : Int32).toNatClampNeg) - ((M 79) ((((12 * x1) + ((M 77) (x1 : Int32).toNatClampNeg)) - 1) : Int32).toNatClampNeg))) ((((12 * x1) + ((M 77) (x1 : Int32).toNatClampNeg)) - 1) : Int32).toNatClampNeg) = 0 → (inb x1 64 ∧ res = (some (.int ((M 79) ((((12 * x1) + ((M 77) (x1 : Int32).toNatClampNeg)) - 1) : Int32).toNatClampNeg)), hs E (up (up M 79 (upd (M 79) ((((12 * x1) + ((M 77) (x1 : Int32).toNatClampNeg)) - 1) : Int32).toNatClampNeg (((M 79) ((((12 * x1) + ((M 77) (x1 : Int32).toNatClampNeg)) - 1) : Int32).toNatClampNeg) - ((M 79) ((((12 * x1) + ((M 77) (x1 : Int32).toNatClampNeg)) - 1) : Int32).toNatClampNeg)))) 77 (upd (M 77) (x1 : Int32).toNatClampNeg (((M 77) (x1 : Int32).toNatClampNeg) - 0))))))))))))) ∧ (¬ ((M 79) ((((12 * x1) + ((M 77) (x1 : Int32).toNatClampNeg)) - 1) : Int32).toNatClampNeg) ≤ x2 → (inb (((12 * x1) + ((M 77) (x1 : Int32).toNatClampNeg)) - 1) 768 ∧ (inb (((12 * x1) + ((M 77) (x1 : Int32).toNatClampNeg)) - 1) 768 ∧ (inb x1 64 ∧ (inb (((12 * x1) + ((M 77) (x1 : Int32).toNatClampNeg)) - 1) 768 ∧ ((((upd (M 79) ((((12 * x1) + ((M 77) (x1 : Int32).toNatClampNeg)) - 1) : Int32).toNatClampNeg (((M 79) ((((12 * x1) + ((M 77) (x1 : Int32).toNatClampNeg)) - 1) : Int32).toNatClampNeg) - x2)) ((((12 * x1) + ((M 77) (x1 : Int32).toNatClampNeg)) - 1) : Int32).toNatClampNeg) = 0 → (inb x1 64 ∧ res = (some (.int x2), hs E (up (up M 79 (upd (M 79) ((((12 * x1) + ((M 77) (x1 : Int32).toNatClampNeg)) - 1) : Int32).toNatClampNeg (((M 79) ((((12 * x1) + ((M 77) (x1 : Int32).toNatClampNeg)) - 1) : Int32).toNatClampNeg) - x2))) 77 (upd (M 77) (x1 : Int32).toNatClampNeg (((M 77) (x1 : Int32).toNatClampNeg) - 1)))))) ∧ (¬ ((upd (M 79) ((((12 * x1) + ((M 77) (x1 : Int32).toNatClampNeg)) - 1) : Int32).toNatClampNeg (((M 79) ((((12 * x1) + ((M 77) (x1 : Int32).toNatClampNeg)) - 1) : Int32).toNatClampNeg) - x2)) ((((12 * x1) + ((M 77) (x1 : Int32).toNatClampNeg)) - 1) : Int32).toNatClampNeg) = 0 → (inb x1 64 ∧ res = (some (.int x2), hs E (up (up M 79 (upd (M 79) ((((12 * x1) + ((M 77) (x1 : Int32).toNatClampNeg)) - 1) : Int32).toNatClampNeg (((M 79) ((((12 * x1) + ((M 77) (x1 : Int32).toNatClampNeg)) - 1) : Int32).toNatClampNeg) - x2))) 77 (upd (M 77) (x1 : Int32).toNatClampNeg (((M 77) (x1 : Int32).toNatClampNeg) - 0)))))))))))))))) : Ev 1 272 0 [some (.ref 59), some (.int x1), some (.int x2), none, none] [] (hs E M) res := by
  refine Ev.steps 6 (pc' := 9) (L' := [some (.ref 59), some (.int x1), some (.int x2), none, none]) (st' := [.int x1, .ref 77, .int (12 * x1)]) rfl ?_
  refine Ev.rd (i := x1) (n := 64) (pc' := 10) (L' := [some (.ref 59), some (.int x1), some (.int x2), none, none]) (st' := [.int ((M 77) (x1 : Int32).toNatClampNeg), .int (12 * x1)]) H.1 rfl ?_
  replace H := H.2
  refine Ev.steps 8 (pc' := 20) (L' := [some (.ref 59), some (.int x1), some (.int x2), some (.int (((12 * x1) + ((M 77) (x1 : Int32).toNatClampNeg)) - 1)), none]) (st' := [.int (((12 * x1) + ((M 77) (x1 : Int32).toNatClampNeg)) - 1), .ref 79, .int x2]) rfl ?_
  refine Ev.rd (i := (((12 * x1) + ((M 77) (x1 : Int32).toNatClampNeg)) - 1)) (n := 768) (pc' := 21) (L' := [some (.ref 59), some (.int x1), some (.int x2), some (.int (((12 * x1) + ((M 77) (x1 : Int32).toNatClampNeg)) - 1)), none]) (st' := [.int ((M 79) ((((12 * x1) + ((M 77) (x1 : Int32).toNatClampNeg)) - 1) : Int32).toNatClampNeg), .int x2]) H.1 rfl ?_
  replace H := H.2
  refine Ev.steps 1 (pc' := if ((M 79) ((((12 * x1) + ((M 77) (x1 : Int32).toNatClampNeg)) - 1) : Int32).toNatClampNeg) ≤ x2 then 28 else 24) (L' := [some (.ref 59), some (.int x1), some (.int x2), some (.int (((12 * x1) + ((M 77) (x1 : Int32).toNatClampNeg)) - 1)), none]) (st' := []) rfl ?_
  refine Ev_ite (fun hc => ?_) (fun hc => ?_)
  · replace H := H.1 hc
    refine Ev.steps 3 (pc' := 33) (L' := [some (.ref 59), some (.int x1), some (.int x2), some (.int (((12 * x1) + ((M 77) (x1 : Int32).toNatClampNeg)) - 1)), none]) (st' := [.int (((12 * x1) + ((M 77) (x1 : Int32).toNatClampNeg)) - 1), .ref 79]) rfl ?_
    refine Ev.rd (i := (((12 * x1) + ((M 77) (x1 : Int32).toNatClampNeg)) - 1)) (n := 768) (pc' := 34) (L' := [some (.ref 59), some (.int x1), some (.int x2), some (.int (((12 * x1) + ((M 77) (x1 : Int32).toNatClampNeg)) - 1)), none]) (st' := [.int ((M 79) ((((12 * x1) + ((M 77) (x1 : Int32).toNatClampNeg)) - 1) : Int32).toNatClampNeg)]) H.1 rfl ?_
    replace H := H.2
    refine Ev.steps 5 (pc' := 42) (L' := [some (.ref 59), some (.int x1), some (.int x2), some (.int (((12 * x1) + ((M 77) (x1 : Int32).toNatClampNeg)) - 1)), some (.int ((M 79) ((((12 * x1) + ((M 77) (x1 : Int32).toNatClampNeg)) - 1) : Int32).toNatClampNeg))]) (st' := [.int (((12 * x1) + ((M 77) (x1 : Int32).toNatClampNeg)) - 1), .ref 79, .int (((12 * x1) + ((M 77) (x1 : Int32).toNatClampNeg)) - 1), .ref 79]) rfl ?_
    refine Ev.rd (i := (((12 * x1) + ((M 77) (x1 : Int32).toNatClampNeg)) - 1)) (n := 768) (pc' := 43) (L' := [some (.ref 59), some (.int x1), some (.int x2), some (.int (((12 * x1) + ((M 77) (x1 : Int32).toNatClampNeg)) - 1)), some (.int ((M 79) ((((12 * x1) + ((M 77) (x1 : Int32).toNatClampNeg)) - 1) : Int32).toNatClampNeg))]) (st' := [.int ((M 79) ((((12 * x1) + ((M 77) (x1 : Int32).toNatClampNeg)) - 1) : Int32).toNatClampNeg), .int (((12 * x1) + ((M 77) (x1 : Int32).toNatClampNeg)) - 1), .ref 79]) H.1 rfl ?_
    replace H := H.2
    refine Ev.steps 2 (pc' := 46) (L' := [some (.ref 59), some (.int x1), some (.int x2), some (.int (((12 * x1) + ((M 77) (x1 : Int32).toNatClampNeg)) - 1)), some (.int ((M 79) ((((12 * x1) + ((M 77) (x1 : Int32).toNatClampNeg)) - 1) : Int32).toNatClampNeg))]) (st' := [.int (((M 79) ((((12 * x1) + ((M 77) (x1 : Int32).toNatClampNeg)) - 1) : Int32).toNatClampNeg) - ((M 79) ((((12 * x1) + ((M 77) (x1 : Int32).toNatClampNeg)) - 1) : Int32).toNatClampNeg)), .int (((12 * x1) + ((M 77) (x1 : Int32).toNatClampNeg)) - 1), .ref 79]) rfl ?_
    refine Ev.wr (a := 79) (g := (upd (M 79) ((((12 * x1) + ((M 77) (x1 : Int32).toNatClampNeg)) - 1) : Int32).toNatClampNeg (((M 79) ((((12 * x1) + ((M 77) (x1 : Int32).toNatClampNeg)) - 1) : Int32).toNatClampNeg) - ((M 79) ((((12 * x1) + ((M 77) (x1 : Int32).toNatClampNeg)) - 1) : Int32).toNatClampNeg)))) (i := (((12 * x1) + ((M 77) (x1 : Int32).toNatClampNeg)) - 1)) (n := 768) (pc' := 47) (L' := [some (.ref 59), some (.int x1), some (.int x2), some (.int (((12 * x1) + ((M 77) (x1 : Int32).toNatClampNeg)) - 1)), some (.int ((M 79) ((((12 * x1) + ((M 77) (x1 : Int32).toNatClampNeg)) - 1) : Int32).toNatClampNeg))]) (st' := []) (by decide) H.1 rfl ?_
    replace H := H.2
    refine Ev.steps 4 (pc' := 53) (L' := [some (.ref 59), some (.int x1), some (.int x2), some (.int (((12 * x1) + ((M 77) (x1 : Int32).toNatClampNeg)) - 1)), some (.int ((M 79) ((((12 * x1) + ((M 77) (x1 : Int32).toNatClampNeg)) - 1) : Int32).toNatClampNeg))]) (st' := [.int x1, .ref 77, .int x1, .ref 77]) rfl ?_
    refine Ev.rd (i := x1) (n := 64) (pc' := 54) (L' := [some (.ref 59), some (.int x1), some (.int x2), some (.int (((12 * x1) + ((M 77) (x1 : Int32).toNatClampNeg)) - 1)), some (.int ((M 79) ((((12 * x1) + ((M 77) (x1 : Int32).toNatClampNeg)) - 1) : Int32).toNatClampNeg))]) (st' := [.int ((M 77) (x1 : Int32).toNatClampNeg), .int x1, .ref 77]) H.1 rfl ?_
    replace H := H.2
    refine Ev.steps 3 (pc' := 59) (L' := [some (.ref 59), some (.int x1), some (.int x2), some (.int (((12 * x1) + ((M 77) (x1 : Int32).toNatClampNeg)) - 1)), some (.int ((M 79) ((((12 * x1) + ((M 77) (x1 : Int32).toNatClampNeg)) - 1) : Int32).toNatClampNeg))]) (st' := [.int (((12 * x1) + ((M 77) (x1 : Int32).toNatClampNeg)) - 1), .ref 79, .int ((M 77) (x1 : Int32).toNatClampNeg), .int x1, .ref 77]) rfl ?_
    refine Ev.rd (i := (((12 * x1) + ((M 77) (x1 : Int32).toNatClampNeg)) - 1)) (n := 768) (pc' := 60) (L' := [some (.ref 59), some (.int x1), some (.int x2), some (.int (((12 * x1) + ((M 77) (x1 : Int32).toNatClampNeg)) - 1)), some (.int ((M 79) ((((12 * x1) + ((M 77) (x1 : Int32).toNatClampNeg)) - 1) : Int32).toNatClampNeg))]) (st' := [.int ((upd (M 79) ((((12 * x1) + ((M 77) (x1 : Int32).toNatClampNeg)) - 1) : Int32).toNatClampNeg (((M 79) ((((12 * x1) + ((M 77) (x1 : Int32).toNatClampNeg)) - 1) : Int32).toNatClampNeg) - ((M 79) ((((12 * x1) + ((M 77) (x1 : Int32).toNatClampNeg)) - 1) : Int32).toNatClampNeg))) ((((12 * x1) + ((M 77) (x1 : Int32).toNatClampNeg)) - 1) : Int32).toNatClampNeg), .int ((M 77) (x1 : Int32).toNatClampNeg), .int x1, .ref 77]) H.1 rfl ?_
    replace H := H.2
    refine Ev.steps 1 (pc' := if ((upd (M 79) ((((12 * x1) + ((M 77) (x1 : Int32).toNatClampNeg)) - 1) : Int32).toNatClampNeg (((M 79) ((((12 * x1) + ((M 77) (x1 : Int32).toNatClampNeg)) - 1) : Int32).toNatClampNeg) - ((M 79) ((((12 * x1) + ((M 77) (x1 : Int32).toNatClampNeg)) - 1) : Int32).toNatClampNeg))) ((((12 * x1) + ((M 77) (x1 : Int32).toNatClampNeg)) - 1) : Int32).toNatClampNeg) = 0 then 63 else 67) (L' := [some (.ref 59), some (.int x1), some (.int x2), some (.int (((12 * x1) + ((M 77) (x1 : Int32).toNatClampNeg)) - 1)), some (.int ((M 79) ((((12 * x1) + ((M 77) (x1 : Int32).toNatClampNeg)) - 1) : Int32).toNatClampNeg))]) (st' := [.int ((M 77) (x1 : Int32).toNatClampNeg), .int x1, .ref 77]) rfl ?_
    refine Ev_ite (fun hc => ?_) (fun hc => ?_)
    · replace H := H.1 hc
      refine Ev.steps 3 (pc' := 69) (L' := [some (.ref 59), some (.int x1), some (.int x2), some (.int (((12 * x1) + ((M 77) (x1 : Int32).toNatClampNeg)) - 1)), some (.int ((M 79) ((((12 * x1) + ((M 77) (x1 : Int32).toNatClampNeg)) - 1) : Int32).toNatClampNeg))]) (st' := [.int (((M 77) (x1 : Int32).toNatClampNeg) - 1), .int x1, .ref 77]) rfl ?_
      refine Ev.wr (a := 77) (g := (upd (M 77) (x1 : Int32).toNatClampNeg (((M 77) (x1 : Int32).toNatClampNeg) - 1))) (i := x1) (n := 64) (pc' := 70) (L' := [some (.ref 59), some (.int x1), some (.int x2), some (.int (((12 * x1) + ((M 77) (x1 : Int32).toNatClampNeg)) - 1)), some (.int ((M 79) ((((12 * x1) + ((M 77) (x1 : Int32).toNatClampNeg)) - 1) : Int32).toNatClampNeg))]) (st' := []) (by decide) H.1 rfl ?_
      replace H := H.2
      refine Ev.steps 1 (pc' := 72) (L' := [some (.ref 59), some (.int x1), some (.int x2), some (.int (((12 * x1) + ((M 77) (x1 : Int32).toNatClampNeg)) - 1)), some (.int ((M 79) ((((12 * x1) + ((M 77) (x1 : Int32).toNatClampNeg)) - 1) : Int32).toNatClampNeg))]) (st' := [.int ((M 79) ((((12 * x1) + ((M 77) (x1 : Int32).toNatClampNeg)) - 1) : Int32).toNatClampNeg)]) rfl ?_
      subst H
      exact Ev.ret rfl
    · replace H := H.2 hc
      refine Ev.steps 2 (pc' := 69) (L' := [some (.ref 59), some (.int x1), some (.int x2), some (.int (((12 * x1) + ((M 77) (x1 : Int32).toNatClampNeg)) - 1)), some (.int ((M 79) ((((12 * x1) + ((M 77) (x1 : Int32).toNatClampNeg)) - 1) : Int32).toNatClampNeg))]) (st' := [.int (((M 77) (x1 : Int32).toNatClampNeg) - 0), .int x1, .ref 77]) rfl ?_
      refine Ev.wr (a := 77) (g := (upd (M 77) (x1 : Int32).toNatClampNeg (((M 77) (x1 : Int32).toNatClampNeg) - 0))) (i := x1) (n := 64) (pc' := 70) (L' := [some (.ref 59), some (.int x1), some (.int x2), some (.int (((12 * x1) + ((M 77) (x1 : Int32).toNatClampNeg)) - 1)), some (.int ((M 79) ((((12 * x1) + ((M 77) (x1 : Int32).toNatClampNeg)) - 1) : Int32).toNatClampNeg))]) (st' := []) (by decide) H.1 rfl ?_
      replace H := H.2
      refine Ev.steps 1 (pc' := 72) (L' := [some (.ref 59), some (.int x1), some (.int x2), some (.int (((12 * x1) + ((M 77) (x1 : Int32).toNatClampNeg)) - 1)), some (.int ((M 79) ((((12 * x1) + ((M 77) (x1 : Int32).toNatClampNeg)) - 1) : Int32).toNatClampNeg))]) (st' := [.int ((M 79) ((((12 * x1) + ((M 77) (x1 : Int32).toNatClampNeg)) - 1) : Int32).toNatClampNeg)]) rfl ?_
      subst H
      exact Ev.ret rfl
  · replace H := H.2 hc
    refine Ev.steps 7 (pc' := 42) (L' := [some (.ref 59), some (.int x1), some (.int x2), some (.int (((12 * x1) + ((M 77) (x1 : Int32).toNatClampNeg)) - 1)), some (.int x2)]) (st' := [.int (((12 * x1) + ((M 77) (x1 : Int32).toNatClampNeg)) - 1), .ref 79, .int (((12 * x1) + ((M 77) (x1 : Int32).toNatClampNeg)) - 1), .ref 79]) rfl ?_
    refine Ev.rd (i := (((12 * x1) + ((M 77) (x1 : Int32).toNatClampNeg)) - 1)) (n := 768) (pc' := 43) (L' := [some (.ref 59), some (.int x1), some (.int x2), some (.int (((12 * x1) + ((M 77) (x1 : Int32).toNatClampNeg)) - 1)), some (.int x2)]) (st' := [.int ((M 79) ((((12 * x1) + ((M 77) (x1 : Int32).toNatClampNeg)) - 1) : Int32).toNatClampNeg), .int (((12 * x1) + ((M 77) (x1 : Int32).toNatClampNeg)) - 1), .ref 79]) H.1 rfl ?_
    replace H := H.2
    refine Ev.steps 2 (pc' := 46) (L' := [some (.ref 59), some (.int x1), some (.int x2), some (.int (((12 * x1) + ((M 77) (x1 : Int32).toNatClampNeg)) - 1)), some (.int x2)]) (st' := [.int (((M 79) ((((12 * x1) + ((M 77) (x1 : Int32).toNatClampNeg)) - 1) : Int32).toNatClampNeg) - x2), .int (((12 * x1) + ((M 77) (x1 : Int32).toNatClampNeg)) - 1), .ref 79]) rfl ?_
    refine Ev.wr (a := 79) (g := (upd (M 79) ((((12 * x1) + ((M 77) (x1 : Int32).toNatClampNeg)) - 1) : Int32).toNatClampNeg (((M 79) ((((12 * x1) + ((M 77) (x1 : Int32).toNatClampNeg)) - 1) : Int32).toNatClampNeg) - x2))) (i := (((12 * x1) + ((M 77) (x1 : Int32).toNatClampNeg)) - 1)) (n := 768) (pc' := 47) (L' := [some (.ref 59), some (.int x1), some (.int x2), some (.int (((12 * x1) + ((M 77) (x1 : Int32).toNatClampNeg)) - 1)), some (.int x2)]) (st' := []) (by decide) H.1 rfl ?_
    replace H := H.2
    refine Ev.steps 4 (pc' := 53) (L' := [some (.ref 59), some (.int x1), some (.int x2), some (.int (((12 * x1) + ((M 77) (x1 : Int32).toNatClampNeg)) - 1)), some (.int x2)]) (st' := [.int x1, .ref 77, .int x1, .ref 77]) rfl ?_
    refine Ev.rd (i := x1) (n := 64) (pc' := 54) (L' := [some (.ref 59), some (.int x1), some (.int x2), some (.int (((12 * x1) + ((M 77) (x1 : Int32).toNatClampNeg)) - 1)), some (.int x2)]) (st' := [.int ((M 77) (x1 : Int32).toNatClampNeg), .int x1, .ref 77]) H.1 rfl ?_
    replace H := H.2
    refine Ev.steps 3 (pc' := 59) (L' := [some (.ref 59), some (.int x1), some (.int x2), some (.int (((12 * x1) + ((M 77) (x1 : Int32).toNatClampNeg)) - 1)), some (.int x2)]) (st' := [.int (((12 * x1) + ((M 77) (x1 : Int32).toNatClampNeg)) - 1), .ref 79, .int ((M 77) (x1 : Int32).toNatClampNeg), .int x1, .ref 77]) rfl ?_
    refine Ev.rd (i := (((12 * x1) + ((M 77) (x1 : Int32).toNatClampNeg)) - 1)) (n := 768) (pc' := 60) (L' := [some (.ref 59), some (.int x1), some (.int x2), some (.int (((12 * x1) + ((M 77) (x1 : Int32).toNatClampNeg)) - 1)), some (.int x2)]) (st' := [.int ((upd (M 79) ((((12 * x1) + ((M 77) (x1 : Int32).toNatClampNeg)) - 1) : Int32).toNatClampNeg (((M 79) ((((12 * x1) + ((M 77) (x1 : Int32).toNatClampNeg)) - 1) : Int32).toNatClampNeg) - x2)) ((((12 * x1) + ((M 77) (x1 : Int32).toNatClampNeg)) - 1) : Int32).toNatClampNeg), .int ((M 77) (x1 : Int32).toNatClampNeg), .int x1, .ref 77]) H.1 rfl ?_
    replace H := H.2
    refine Ev.steps 1 (pc' := if ((upd (M 79) ((((12 * x1) + ((M 77) (x1 : Int32).toNatClampNeg)) - 1) : Int32).toNatClampNeg (((M 79) ((((12 * x1) + ((M 77) (x1 : Int32).toNatClampNeg)) - 1) : Int32).toNatClampNeg) - x2)) ((((12 * x1) + ((M 77) (x1 : Int32).toNatClampNeg)) - 1) : Int32).toNatClampNeg) = 0 then 63 else 67) (L' := [some (.ref 59), some (.int x1), some (.int x2), some (.int (((12 * x1) + ((M 77) (x1 : Int32).toNatClampNeg)) - 1)), some (.int x2)]) (st' := [.int ((M 77) (x1 : Int32).toNatClampNeg), .int x1, .ref 77]) rfl ?_
    refine Ev_ite (fun hc => ?_) (fun hc => ?_)
    · replace H := H.1 hc
      refine Ev.steps 3 (pc' := 69) (L' := [some (.ref 59), some (.int x1), some (.int x2), some (.int (((12 * x1) + ((M 77) (x1 : Int32).toNatClampNeg)) - 1)), some (.int x2)]) (st' := [.int (((M 77) (x1 : Int32).toNatClampNeg) - 1), .int x1, .ref 77]) rfl ?_
      refine Ev.wr (a := 77) (g := (upd (M 77) (x1 : Int32).toNatClampNeg (((M 77) (x1 : Int32).toNatClampNeg) - 1))) (i := x1) (n := 64) (pc' := 70) (L' := [some (.ref 59), some (.int x1), some (.int x2), some (.int (((12 * x1) + ((M 77) (x1 : Int32).toNatClampNeg)) - 1)), some (.int x2)]) (st' := []) (by decide) H.1 rfl ?_
      replace H := H.2
      refine Ev.steps 1 (pc' := 72) (L' := [some (.ref 59), some (.int x1), some (.int x2), some (.int (((12 * x1) + ((M 77) (x1 : Int32).toNatClampNeg)) - 1)), some (.int x2)]) (st' := [.int x2]) rfl ?_
      subst H
      exact Ev.ret rfl
    · replace H := H.2 hc
      refine Ev.steps 2 (pc' := 69) (L' := [some (.ref 59), some (.int x1), some (.int x2), some (.int (((12 * x1) + ((M 77) (x1 : Int32).toNatClampNeg)) - 1)), some (.int x2)]) (st' := [.int (((M 77) (x1 : Int32).toNatClampNeg) - 0), .int x1, .ref 77]) rfl ?_
      refine Ev.wr (a := 77) (g := (upd (M 77) (x1 : Int32).toNatClampNeg (((M 77) (x1 : Int32).toNatClampNeg) - 0))) (i := x1) (n := 64) (pc' := 70) (L' := [some (.ref 59), some (.int x1), some (.int x2), some (.int (((12 * x1) + ((M 77) (x1 : Int32).toNatClampNeg)) - 1)), some (.int x2)]) (st' := []) (by decide) H.1 rfl ?_
      replace H := H.2
      refine Ev.steps 1 (pc' := 72) (L' := [some (.ref 59), some (.int x1), some (.int x2), some (.int (((12 * x1) + ((M 77) (x1 : Int32).toNatClampNeg)) - 1)), some (.int x2)]) (st' := [.int x2]) rfl ?_
      subst H
      exact Ev.ret rfl

-- 276 GlassWiresModel top (I)I
theorem w276_0 {E : gw_N} {M : Mem} {res : Option Value × gw_H} {x1 : Int32} (H : (inb x1 64 ∧ res = (some (.int (((12 * x1) + ((M 77) (x1 : Int32).toNatClampNeg)) - 1)), hs E M))) : Ev 1 276 0 [some (.ref 59), some (.int x1)] [] (hs E M) res := by
  refine Ev.steps 6 (pc' := 9) (L' := [some (.ref 59), some (.int x1)]) (st' := [.int x1, .ref 77, .int (12 * x1)]) rfl ?_
  refine Ev.rd (i := x1) (n := 64) (pc' := 10) (L' := [some (.ref 59), some (.int x1)]) (st' := [.int ((M 77) (x1 : Int32).toNatClampNeg), .int (12 * x1)]) H.1 rfl ?_
  replace H := H.2
  refine Ev.steps 3 (pc' := 13) (L' := [some (.ref 59), some (.int x1)]) (st' := [.int (((12 * x1) + ((M 77) (x1 : Int32).toNatClampNeg)) - 1)]) rfl ?_
  subst H
  exact Ev.ret rfl

def F276 (M : Mem) (x1 : Int32) : Int32 := (((12 * x1) + ((M 77) (x1 : Int32).toNatClampNeg)) - 1)
def P276 (M : Mem) (x1 : Int32) : Prop := (inb x1 64)
theorem s276 {E : gw_N} {M : Mem} {x1 : Int32} (H : P276 M x1) : Rn 276 [.ref 59, .int x1] (hs E M) (some (.int (F276 M x1))) (hs E M) :=
  w276_0 (⟨H, rfl⟩)
-- 279 GlassWiresModel fillsOf (I)I
theorem w279_0 {E : gw_N} {M : Mem} {res : Option Value × gw_H} {x1 : Int32} (H : Ev 1 279 4 [some (.ref 59), some (.int x1), some (.int 0), some (.int 0), none] [] (hs E M) res) : Ev 1 279 0 [some (.ref 59), some (.int x1), none, none, none] [] (hs E M) res := by
  refine Ev.steps 4 (pc' := 4) (L' := [some (.ref 59), some (.int x1), some (.int 0), some (.int 0), none]) (st' := []) rfl ?_
  exact Ev.weak [some (.ref 59), some (.int x1), some (.int 0), some (.int 0), none] (gw_leb_le ⟨rfl, rfl, rfl, rfl, trivial⟩) H

theorem w279_4 {E : gw_N} {M : Mem} {res : Option Value × gw_H} {x1 : Int32} {x2 : Int32} {x3 : Int32} (H : (((((M 59) 22) - 1) ≤ x3 → res = (some (.int x2), hs E M)) ∧ (¬ (((M 59) 22) - 1) ≤ x3 → (inb x1 8 ∧ Ev 1 279 4 [some (.ref 59), some (.int x1), some (.int (x2 + 1)), some (.int (x3 + ((((M 59) 22) - x3) - (((((M 59) 22) - x3) * ((M 74) (x1 : Int32).toNatClampNeg)) / 10)))), none] [] (hs E M) res)))) : Ev 1 279 4 [some (.ref 59), some (.int x1), some (.int x2), some (.int x3), none] [] (hs E M) res := by
  refine Ev.steps 6 (pc' := if (((M 59) 22) - 1) ≤ x3 then 46 else 14) (L' := [some (.ref 59), some (.int x1), some (.int x2), some (.int x3), none]) (st' := []) rfl ?_
  refine Ev_ite (fun hc => ?_) (fun hc => ?_)
  · replace H := H.1 hc
    refine Ev.steps 1 (pc' := 47) (L' := [some (.ref 59), some (.int x1), some (.int x2), some (.int x3), none]) (st' := [.int x2]) rfl ?_
    subst H
    exact Ev.ret rfl
  · replace H := H.2 hc
    refine Ev.steps 11 (pc' := 32) (L' := [some (.ref 59), some (.int x1), some (.int x2), some (.int x3), some (.int (((M 59) 22) - x3))]) (st' := [.int x1, .ref 74, .int (((M 59) 22) - x3), .int (((M 59) 22) - x3), .int x3]) rfl ?_
    refine Ev.rd (i := x1) (n := 8) (pc' := 33) (L' := [some (.ref 59), some (.int x1), some (.int x2), some (.int x3), some (.int (((M 59) 22) - x3))]) (st' := [.int ((M 74) (x1 : Int32).toNatClampNeg), .int (((M 59) 22) - x3), .int (((M 59) 22) - x3), .int x3]) H.1 rfl ?_
    replace H := H.2
    refine Ev.steps 2 (pc' := 36) (L' := [some (.ref 59), some (.int x1), some (.int x2), some (.int x3), some (.int (((M 59) 22) - x3))]) (st' := [.int 10, .int ((((M 59) 22) - x3) * ((M 74) (x1 : Int32).toNatClampNeg)), .int (((M 59) 22) - x3), .int x3]) rfl ?_
    refine Ev.dv (y := 10) (pc' := 37) (L' := [some (.ref 59), some (.int x1), some (.int x2), some (.int x3), some (.int (((M 59) 22) - x3))]) (st' := [.int (((((M 59) 22) - x3) * ((M 74) (x1 : Int32).toNatClampNeg)) / 10), .int (((M 59) 22) - x3), .int x3]) (by decide) rfl ?_
    refine Ev.steps 5 (pc' := 4) (L' := [some (.ref 59), some (.int x1), some (.int (x2 + 1)), some (.int (x3 + ((((M 59) 22) - x3) - (((((M 59) 22) - x3) * ((M 74) (x1 : Int32).toNatClampNeg)) / 10)))), some (.int (((M 59) 22) - x3))]) (st' := []) rfl ?_
    exact Ev.weak [some (.ref 59), some (.int x1), some (.int (x2 + 1)), some (.int (x3 + ((((M 59) 22) - x3) - (((((M 59) 22) - x3) * ((M 74) (x1 : Int32).toNatClampNeg)) / 10)))), none] (gw_leb_le ⟨rfl, rfl, rfl, rfl, trivial⟩) H

-- 290 GlassWiresModel plain (I)I
theorem w290_0 {E : gw_N} {M : Mem} {res : Option Value × gw_H} {x0 : Int32} (H : ((0 ≤ x0 → res = (some (.int x0), hs E M)) ∧ (¬ 0 ≤ x0 → res = (some (.int (-x0)), hs E M)))) : Ev 1 290 0 [some (.int x0)] [] (hs E M) res := by
  refine Ev.steps 2 (pc' := if 0 ≤ x0 then 9 else 4) (L' := [some (.int x0)]) (st' := []) rfl ?_
  refine Ev_ite (fun hc => ?_) (fun hc => ?_)
  · replace H := H.1 hc
    refine Ev.steps 1 (pc' := 10) (L' := [some (.int x0)]) (st' := [.int x0]) rfl ?_
    subst H
    exact Ev.ret rfl
  · replace H := H.2 hc
    refine Ev.steps 3 (pc' := 10) (L' := [some (.int x0)]) (st' := [.int (-x0)]) rfl ?_
    subst H
    exact Ev.ret rfl

def F290 (M : Mem) (x0 : Int32) : Int32 := (if 0 ≤ x0 then x0 else (-x0))
theorem s290 {E : gw_N} {M : Mem} {x0 : Int32} : Rn 290 [.int x0] (hs E M) (some (.int (F290 M x0))) (hs E M) :=
  w290_0 (⟨fun h0 => gw_reteq (if_pos h0), fun h0 => gw_reteq (if_neg h0)⟩)
-- 302 GlassWiresModel layGroups ()I
theorem w302_0 {E : gw_N} {M : Mem} {res : Option Value × gw_H}  (H : Ev 1 302 4 [some (.ref 59), some (.int 0), some (.int 0)] [] (hs E M) res) : Ev 1 302 0 [some (.ref 59), none, none] [] (hs E M) res := by
  refine Ev.steps 4 (pc' := 4) (L' := [some (.ref 59), some (.int 0), some (.int 0)]) (st' := []) rfl ?_
  exact Ev.weak [some (.ref 59), some (.int 0), some (.int 0)] (gw_leb_le ⟨rfl, rfl, rfl, trivial⟩) H

theorem w302_4 {E : gw_N} {M : Mem} {res : Option Value × gw_H} {x1 : Int32} {x2 : Int32} (H : ((8 ≤ x2 → Ev 1 302 25 [some (.ref 59), some (.int x1), some (.int 0)] [] (hs E M) res) ∧ (¬ 8 ≤ x2 → (inb x2 8 ∧ Ev 1 302 4 [some (.ref 59), some (.int x1), some (.int (x2 + 1))] [] (hs E (up M 88 (upd (M 88) (x2 : Int32).toNatClampNeg 0))) res)))) : Ev 1 302 4 [some (.ref 59), some (.int x1), some (.int x2)] [] (hs E M) res := by
  refine Ev.steps 3 (pc' := if 8 ≤ x2 then 23 else 10) (L' := [some (.ref 59), some (.int x1), some (.int x2)]) (st' := []) rfl ?_
  refine Ev_ite (fun hc => ?_) (fun hc => ?_)
  · replace H := H.1 hc
    refine Ev.steps 2 (pc' := 25) (L' := [some (.ref 59), some (.int x1), some (.int 0)]) (st' := []) rfl ?_
    exact Ev.weak [some (.ref 59), some (.int x1), some (.int 0)] (gw_leb_le ⟨rfl, rfl, rfl, trivial⟩) H
  · replace H := H.2 hc
    refine Ev.steps 4 (pc' := 16) (L' := [some (.ref 59), some (.int x1), some (.int x2)]) (st' := [.int 0, .int x2, .ref 88]) rfl ?_
    refine Ev.wr (a := 88) (g := (upd (M 88) (x2 : Int32).toNatClampNeg 0)) (i := x2) (n := 8) (pc' := 17) (L' := [some (.ref 59), some (.int x1), some (.int x2)]) (st' := []) (by decide) H.1 rfl ?_
    replace H := H.2
    refine Ev.steps 2 (pc' := 4) (L' := [some (.ref 59), some (.int x1), some (.int (x2 + 1))]) (st' := []) rfl ?_
    exact Ev.weak [some (.ref 59), some (.int x1), some (.int (x2 + 1))] (gw_leb_le ⟨rfl, rfl, rfl, trivial⟩) H

theorem w302_25 {E : gw_N} {M : Mem} {res : Option Value × gw_H} {x1 : Int32} {x2 : Int32} (H : ((((M 59) 40) ≤ x2 → res = (some (.int x1), hs E M)) ∧ (¬ ((M 59) 40) ≤ x2 → (inb x2 8 ∧ (inb ((M 87) (x2 : Int32).toNatClampNeg) 8 ∧ (inb x2 8 ∧ (inb ((M 87) (x2 : Int32).toNatClampNeg) 8 ∧ (inb x2 8 ∧ (((((M 87) (x2 : Int32).toNatClampNeg) + 1) ≤ x1 → Ev 1 302 25 [some (.ref 59), some (.int x1), some (.int (x2 + 1))] [] (hs E (up M 88 (upd (M 88) (((M 87) (x2 : Int32).toNatClampNeg) : Int32).toNatClampNeg (((M 88) (((M 87) (x2 : Int32).toNatClampNeg) : Int32).toNatClampNeg) + ((M 86) (x2 : Int32).toNatClampNeg))))) res) ∧ (¬ (((M 87) (x2 : Int32).toNatClampNeg) + 1) ≤ x1 → (inb x2 8 ∧ Ev 1 302 25 [some (.ref 59), some (.int (((M 87) (x2 : Int32).toNatClampNeg) + 1)), some (.int (x2 + 1))] [] (hs E (up M 88 (upd (M 88) (((M 87) (x2 : Int32).toNatClampNeg) : Int32).toNatClampNeg (((M 88) (((M 87) (x2 : Int32).toNatClampNeg) : Int32).toNatClampNeg) + ((M 86) (x2 : Int32).toNatClampNeg))))) res))))))))))) : Ev 1 302 25 [some (.ref 59), some (.int x1), some (.int x2)] [] (hs E M) res := by
  refine Ev.steps 4 (pc' := if ((M 59) 40) ≤ x2 then 84 else 33) (L' := [some (.ref 59), some (.int x1), some (.int x2)]) (st' := []) rfl ?_
  refine Ev_ite (fun hc => ?_) (fun hc => ?_)
  · replace H := H.1 hc
    refine Ev.steps 1 (pc' := 85) (L' := [some (.ref 59), some (.int x1), some (.int x2)]) (st' := [.int x1]) rfl ?_
    subst H
    exact Ev.ret rfl
  · replace H := H.2 hc
    refine Ev.steps 5 (pc' := 42) (L' := [some (.ref 59), some (.int x1), some (.int x2)]) (st' := [.int x2, .ref 87, .ref 88]) rfl ?_
    refine Ev.rd (i := x2) (n := 8) (pc' := 43) (L' := [some (.ref 59), some (.int x1), some (.int x2)]) (st' := [.int ((M 87) (x2 : Int32).toNatClampNeg), .ref 88]) H.1 rfl ?_
    replace H := H.2
    refine Ev.steps 1 (pc' := 44) (L' := [some (.ref 59), some (.int x1), some (.int x2)]) (st' := [.int ((M 87) (x2 : Int32).toNatClampNeg), .ref 88, .int ((M 87) (x2 : Int32).toNatClampNeg), .ref 88]) rfl ?_
    refine Ev.rd (i := ((M 87) (x2 : Int32).toNatClampNeg)) (n := 8) (pc' := 45) (L' := [some (.ref 59), some (.int x1), some (.int x2)]) (st' := [.int ((M 88) (((M 87) (x2 : Int32).toNatClampNeg) : Int32).toNatClampNeg), .int ((M 87) (x2 : Int32).toNatClampNeg), .ref 88]) H.1 rfl ?_
    replace H := H.2
    refine Ev.steps 3 (pc' := 50) (L' := [some (.ref 59), some (.int x1), some (.int x2)]) (st' := [.int x2, .ref 86, .int ((M 88) (((M 87) (x2 : Int32).toNatClampNeg) : Int32).toNatClampNeg), .int ((M 87) (x2 : Int32).toNatClampNeg), .ref 88]) rfl ?_
    refine Ev.rd (i := x2) (n := 8) (pc' := 51) (L' := [some (.ref 59), some (.int x1), some (.int x2)]) (st' := [.int ((M 86) (x2 : Int32).toNatClampNeg), .int ((M 88) (((M 87) (x2 : Int32).toNatClampNeg) : Int32).toNatClampNeg), .int ((M 87) (x2 : Int32).toNatClampNeg), .ref 88]) H.1 rfl ?_
    replace H := H.2
    refine Ev.steps 1 (pc' := 52) (L' := [some (.ref 59), some (.int x1), some (.int x2)]) (st' := [.int (((M 88) (((M 87) (x2 : Int32).toNatClampNeg) : Int32).toNatClampNeg) + ((M 86) (x2 : Int32).toNatClampNeg)), .int ((M 87) (x2 : Int32).toNatClampNeg), .ref 88]) rfl ?_
    refine Ev.wr (a := 88) (g := (upd (M 88) (((M 87) (x2 : Int32).toNatClampNeg) : Int32).toNatClampNeg (((M 88) (((M 87) (x2 : Int32).toNatClampNeg) : Int32).toNatClampNeg) + ((M 86) (x2 : Int32).toNatClampNeg)))) (i := ((M 87) (x2 : Int32).toNatClampNeg)) (n := 8) (pc' := 53) (L' := [some (.ref 59), some (.int x1), some (.int x2)]) (st' := []) (by decide) H.1 rfl ?_
    replace H := H.2
    refine Ev.steps 3 (pc' := 58) (L' := [some (.ref 59), some (.int x1), some (.int x2)]) (st' := [.int x2, .ref 87]) rfl ?_
    refine Ev.rd (i := x2) (n := 8) (pc' := 59) (L' := [some (.ref 59), some (.int x1), some (.int x2)]) (st' := [.int ((M 87) (x2 : Int32).toNatClampNeg)]) H.1 rfl ?_
    replace H := H.2
    refine Ev.steps 4 (pc' := if (((M 87) (x2 : Int32).toNatClampNeg) + 1) ≤ x1 then 76 else 65) (L' := [some (.ref 59), some (.int x1), some (.int x2)]) (st' := []) rfl ?_
    refine Ev_ite (fun hc => ?_) (fun hc => ?_)
    · replace H := H.1 hc
      refine Ev.steps 4 (pc' := 25) (L' := [some (.ref 59), some (.int x1), some (.int (x2 + 1))]) (st' := []) rfl ?_
      exact Ev.weak [some (.ref 59), some (.int x1), some (.int (x2 + 1))] (gw_leb_le ⟨rfl, rfl, rfl, trivial⟩) H
    · replace H := H.2 hc
      refine Ev.steps 3 (pc' := 70) (L' := [some (.ref 59), some (.int x1), some (.int x2)]) (st' := [.int x2, .ref 87]) rfl ?_
      refine Ev.rd (i := x2) (n := 8) (pc' := 71) (L' := [some (.ref 59), some (.int x1), some (.int x2)]) (st' := [.int ((M 87) (x2 : Int32).toNatClampNeg)]) H.1 rfl ?_
      replace H := H.2
      refine Ev.steps 6 (pc' := 25) (L' := [some (.ref 59), some (.int (((M 87) (x2 : Int32).toNatClampNeg) + 1)), some (.int (x2 + 1))]) (st' := []) rfl ?_
      exact Ev.weak [some (.ref 59), some (.int (((M 87) (x2 : Int32).toNatClampNeg) + 1)), some (.int (x2 + 1))] (gw_leb_le ⟨rfl, rfl, rfl, trivial⟩) H

